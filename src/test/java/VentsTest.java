/** Promises 18 to 23: rows of vents. */
public final class VentsTest {
    private static final Check CHECK = new Check();

    public static void main(String[] args) {
        refusals();
        worthOf();
        best();
        sure();
        rowFor();
        withVentsOpenNow();
        daysGoneBy();
        CHECK.end("VentsTest");
    }

    private static void refusals() {
        ChaletRule x = new ChaletRule();
        CHECK.refused("worthOf", x, x.worthOf(0, 9), 1);
        CHECK.refused("bestRow", x, x.bestRow(0), 1);
        CHECK.refused("bestWorth", x, x.bestWorth(1), 1);
        CHECK.refused("sureRow", x, x.sureRow(1), 1);
        CHECK.refused("sureCoins", x, x.sureCoins(1), 1);
        CHECK.refused("rowFor", x, x.rowFor(4, 1), 1);
        Check.read(x, Village.TEXT);
        for (int n : new int[] {-1, 0, 5, Integer.MIN_VALUE, Integer.MAX_VALUE}) {
            CHECK.refused("worthOf(0, " + n + ")", x, x.worthOf(0, n), 2);
            CHECK.refused("bestRow(" + n + ")", x, x.bestRow(n), 2);
            CHECK.refused("bestWorth(" + n + ")", x, x.bestWorth(n), 2);
            CHECK.refused("sureRow(" + n + ")", x, x.sureRow(n), 2);
            CHECK.refused("sureCoins(" + n + ")", x, x.sureCoins(n), 2);
            CHECK.refused("rowFor(0, " + n + ")", x, x.rowFor(0, n), 2);
            CHECK.refused("rowFor(" + (n == 0 ? 4 : n) + ", 1)", x, x.rowFor(n == 0 ? 4 : n, 1), 2);
        }
        int[][] wrong = {{3, 1}, {10, 1}, {-1, 1}, {-10, 1}, {-10, 2}, {30, 2}, {103, 3}, {131, 3}, {1000, 3}, {10000, 4},
            {Integer.MAX_VALUE, 4}, {Integer.MIN_VALUE, 4}, {9, 4}};
        for (int[] w : wrong) {
            CHECK.refused("worthOf(" + w[0] + ", " + w[1] + ")", x, x.worthOf(w[0], w[1]), 2);
        }
        x.worthOf(0, 4);
        CHECK.due("not refused", x.trouble(), 0);
    }

    /** Without vents day 3 is wet; sash on the first two days makes day 2 fine; flue only costs. */
    private static void worthOf() {
        ChaletRule x = Check.with(Village.TEXT);
        int[][] want = {{0, 1, 1000}, {0, 4, 1009}, {0, 3, 1000}, {220, 3, 1016}, {2200, 4, 1016}, {1000, 4, 1006},
            {1, 4, 1006}, {1111, 4, 997}, {2222, 4, 1012}, {22, 3, 996}, {2, 1, 998}};
        for (int[] w : want) {
            CHECK.due("worthOf(" + w[0] + ", " + w[1] + ")", x.worthOf(w[0], w[1]), w[2]);
        }
        ChaletRule dear = Check.with(Village.ZEROS + ";vent a wet 1 costs 99;vent b fine 1 costs 0;vent c fine 1 costs 0;"
                + "vent d fine 1 costs 98");
        CHECK.due("least worth", dear.worthOf(1111, 4), 604);
        CHECK.due("the last vent", dear.worthOf(4, 4), 902);
        CHECK.refused("no fifth vent", dear, dear.worthOf(5, 4), 2);
    }

    private static void best() {
        ChaletRule x = Check.with(Village.TEXT);
        int[][] want = {{1, 0, 1000}, {2, 0, 1000}, {3, 220, 1016}, {4, 2200, 1016}};
        for (int[] w : want) {
            CHECK.due("bestRow(" + w[0] + ")", x.bestRow(w[0]), w[1]);
            CHECK.due("bestWorth(" + w[0] + ")", x.bestWorth(w[0]), w[2]);
        }
        ChaletRule like = Check.with(Village.chalet(50, 0, 2, 0) + ";vent a fine 1 costs 0;vent b wet 1 costs 0;"
                + "vent c wet 2 costs 0;plan p on 1 wet worth 5");
        CHECK.due("of like ones the first", like.bestRow(2), 20);
        CHECK.due("its worth", like.bestWorth(2), 1005);
        CHECK.due("nothing is as good as what costs nothing", like.bestRow(1), 0);
        ChaletRule dear = Check.with(Village.chalet(50, 0, 2, 0) + ";vent a wet 1 costs 6;plan p on 1 wet worth 5");
        CHECK.due("too dear", dear.bestRow(2), 0);
        CHECK.due("too dear: worth", dear.bestWorth(2), 1000);
        ChaletRule even = Check.with(Village.chalet(50, 0, 2, 0) + ";vent a wet 1 costs 5;plan p on 1 wet worth 5");
        CHECK.due("as dear", even.bestRow(2), 0);
        CHECK.due("without vents", Check.with(Village.ZEROS).bestRow(4), 0);
    }

    private static void sure() {
        ChaletRule x = Check.with(Village.TEXT);
        int[][] want = {{1, 0, 0}, {2, 0, 0}, {3, 220, 4}, {4, -2, -2}};
        for (int[] w : want) {
            CHECK.due("sureRow(" + w[0] + ")", x.sureRow(w[0]), w[1]);
            CHECK.due("sureCoins(" + w[0] + ")", x.sureCoins(w[0]), w[2]);
        }
        CHECK.due("not refused", x.trouble(), 0);
        ChaletRule dear = Check.with(Village.chalet(50, 0, 2, 0) + ";vent a wet 1 costs 60;vent b wet 1 costs 7;"
                + "vent c wet 1 costs 7;plan p on 1 wet worth 0");
        CHECK.due("sure whatever it is worth", dear.sureRow(2), 20);
        CHECK.due("fewest coins", dear.sureCoins(2), 7);
        ChaletRule first = Check.with(Village.chalet(50, 0, 2, 0) + ";vent a wet 1 costs 0;plan p on 0 wet worth 1");
        CHECK.due("the first day can't be changed", first.sureRow(1), -2);
        ChaletRule two = Check.with(Village.chalet(50, 0, 2, 0) + ";vent a wet 1 costs 0;plan p on 1 wet worth 1;"
                + "plan q on 1 fine worth 1");
        CHECK.due("not both", two.sureCoins(2), -2);
        CHECK.due("neither is asked yet", two.sureCoins(1), 0);
    }

    private static void rowFor() {
        ChaletRule x = Check.with(Village.TEXT);
        int[][] want = {{2, 1, 2}, {1, 1, 0}, {0, 1, -2}, {0, 2, 2}, {3, 4, -2}};
        for (int[] w : want) {
            CHECK.due("rowFor(" + w[0] + ", " + w[1] + ")", x.rowFor(w[0], w[1]), w[2]);
        }
        CHECK.due("not refused", x.trouble(), 0);
        ChaletRule slow = Check.with(Village.chalet(50, 0, 0, 0) + ";vent a wet 9 costs 0;vent b wet 3 costs 0");
        CHECK.due("three days at least", slow.rowFor(1, 2), -2);
        CHECK.due("three vents", slow.rowFor(1, 3), 111);
        CHECK.due("fewest vents first, then the row", slow.rowFor(1, 4), 111);
        CHECK.due("none at all", slow.rowFor(0, 4), 0);
        ChaletRule few = Check.with(Village.chalet(50, 0, 1, 0) + ";vent a wet 1 costs 0;vent b wet 9 costs 9");
        CHECK.due("one vent late ahead of two early", few.rowFor(1, 2), 2);
        ChaletRule turn = Check.with(Village.chalet(61, 0, 2, 0) + ";weather wet 0 fine 2;vent a wet 4 costs 0;"
                + "vent b fine 2 costs 0");
        CHECK.due("row 20 has fewer vents than row 12", turn.rowFor(0, 2), 20);
    }

    private static void withVentsOpenNow() {
        ChaletRule x = Check.with(Village.TEXT);
        x.open(1);
        CHECK.due("bestRow(3)", x.bestRow(3), 20);
        CHECK.due("bestWorth(3)", x.bestWorth(3), 1018);
        CHECK.due("sureRow(3)", x.sureRow(3), 20);
        CHECK.due("sureCoins(3)", x.sureCoins(3), 2);
        CHECK.due("a vent that is open pulls once", x.worthOf(220, 3), 1016);
        CHECK.due("rowFor(2, 1)", x.rowFor(2, 1), 0);
        CHECK.due("besides: both", x.rowFor(1, 1), 1);
        CHECK.due("nothing changes", x.vent(1, 3), 1);
        CHECK.due("no acts", x.size(11), 1);
    }

    private static void daysGoneBy() {
        ChaletRule x = Check.with(Village.TEXT);
        x.open(1);
        x.day();
        CHECK.due("bestRow(2)", x.bestRow(2), 20);
        CHECK.due("bestWorth(2)", x.bestWorth(2), 1018);
        x.open(1);
        x.day();
        CHECK.due("bestWorth(1)", x.bestWorth(1), 1020);
        x.day();
        CHECK.due("gone by", x.worthOf(0, 1), 1000);
        CHECK.due("sure of what is left", x.sureRow(1), -2);
    }
}
