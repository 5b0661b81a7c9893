/** Promises 33 to 37: floods through ditches. */
final class FloodsSentences {
    private static final String FOUR = Village.ZEROS + ";field a;field b;field c;field d";

    private final Sentences doc;
    private final ChaletRule none = new ChaletRule();
    private final ChaletRule village = Check.with(Village.TEXT);
    private final ChaletRule bare = Check.with(Village.ZEROS);
    private final ChaletRule single = Check.with(Village.ZEROS + ";field f");
    private final ChaletRule pair = Check.with(Village.ZEROS + ";field f;field g;ditch f g carries 9");
    private final ChaletRule row = Check.with(FOUR + ";ditch a b carries 2;ditch b c carries 2;ditch c d carries 2");
    private final ChaletRule diamond = Check.with(FOUR + ";ditch a b carries 6;ditch a c carries 1;ditch b d carries 3;"
            + "ditch c d carries 9;ditch b c carries 2");

    FloodsSentences(Sentences doc) {
        this.doc = doc;
    }

    void all() {
        term();
        flood();
        cut();
        floodIf();
        narrow();
        downhill();
    }

    private void says(String section, String quote) {
        doc.says(section, quote);
    }

    private void term() {
        says("III", "FLOOD: the most that can go from the first field to the last one, no ditch carrying more than told.");
        doc.due("5 by the mill, 3 by itself", village.flood(), 8);
        doc.due("3, 2 by the middle and 1", diamond.flood(), 6);
        doc.due("one after the other", row.flood(), 2);
        ChaletRule up = Check.with(Village.ZEROS + ";field f;field g;ditch g f carries 9");
        doc.due("not from the last to the first", up.flood(), 0);
        ChaletRule apart = Check.with(FOUR + ";ditch a b carries 9;ditch c d carries 9;ditch c b carries 9");
        doc.due("no way", apart.flood(), 0);
        ChaletRule wide = Check.with(FOUR + ";ditch a b carries 99;ditch a c carries 99;ditch a d carries 99;ditch b d carries 99;ditch c d carries 99");
        doc.due("the most", wide.flood(), 297);
        says("III", "CUT: fields with the first one, without the last one: what ditches from these to the others carry: the least is as much as FLOOD;");
        doc.due("hill and mill", village.cut(), 3);
        doc.due("a and b", diamond.cut(), 3);
        ChaletRule back = Check.with(FOUR + ";ditch a c carries 9;ditch c d carries 4;ditch b c carries 9;ditch d a carries 9");
        doc.due("a and c: ditches to these don't count", back.cut(), 5);
        doc.due("FLOOD", back.flood(), 4);
        ChaletRule late = Check.with(FOUR + ";ditch a b carries 9;ditch b c carries 9;ditch c d carries 8");
        doc.due("all but the last", late.cut(), 7);
        says("III", "of like ones the least bits.");
        doc.due("1, 3 and 7 are alike", row.cut(), 1);
        ChaletRule like = Check.with(FOUR + ";ditch a b carries 9;ditch b d carries 5;ditch a c carries 5;ditch c d carries 9");
        doc.due("3 and no other", like.cut(), 3);
        doc.due("no ditches", Check.with(FOUR).cut(), 1);
    }

    private void flood() {
        says("33", "FLOOD;");
        doc.due("flood()", village.flood(), 8);
        doc.due("one ditch", pair.flood(), 9);
        doc.due("two fields without a ditch", Check.with(Village.ZEROS + ";field f;field g").flood(), 0);
        says("33", "0 with fewer than two fields.");
        doc.due("none", bare.flood(), 0);
        doc.due("not refused", bare.trouble(), 0);
        doc.due("one", single.flood(), 0);
        doc.due("not refused", single.trouble(), 0);
        says("33", "NONE: 1 (no CHALET).");
        doc.refused("flood()", none, none.flood(), 1);
    }

    private void cut() {
        says("34", "CUT, as bits of fields;");
        doc.due("cut()", village.cut(), 3);
        doc.due("two fields", pair.cut(), 1);
        ChaletRule six = Check.with(Village.ZEROS + ";field a;field b;field c;field d;field e;field f;ditch a e carries 5;ditch e b carries 4;"
                + "ditch b d carries 9;ditch d c carries 3;ditch c f carries 7;ditch b e carries 9;ditch f a carries 9;"
                + "ditch d f carries 1;ditch c d carries 1");
        doc.due("six fields", six.cut(), 17);
        says("34", "-2 with fewer than two.");
        doc.due("none", bare.cut(), -2);
        doc.due("not refused", bare.trouble(), 0);
        doc.due("one", single.cut(), -2);
        doc.due("not refused", single.trouble(), 0);
        says("34", "NONE: 1 (no CHALET).");
        doc.refused("cut()", none, none.cut(), 1);
    }

    private void floodIf() {
        says("35", "FLOOD if a ditch carried so much");
        int[][] want = {{0, 4, 7}, {0, 8, 8}, {1, 6, 9}, {2, 4, 9}};
        for (int[] w : want) {
            doc.due("floodIf(" + w[0] + ", " + w[1] + ")", village.floodIf(w[0], w[1]), w[2]);
        }
        says("35", "(0 .. 999)");
        int[][] edges = {{0, 0, 3}, {0, 999, 8}, {1, 0, 3}, {1, 999, 10}, {2, 0, 5}, {2, 999, 1004}};
        for (int[] w : edges) {
            doc.due("floodIf(" + w[0] + ", " + w[1] + ")", village.floodIf(w[0], w[1]), w[2]);
            doc.due("not refused", village.trouble(), 0);
        }
        says("35", "in place of what is told.");
        doc.due("as told", village.floodIf(1, 5), 8);
        doc.due("flood() stays", village.flood(), 8);
        says("35", "NONE: 1;");
        doc.refused("no CHALET", none, none.floodIf(0, 0), 1);
        doc.refused("no ditches", single, single.floodIf(0, 0), 1);
        for (int k : new int[] {-1, 3, 9, Integer.MIN_VALUE, Integer.MAX_VALUE}) {
            doc.refused("floodIf(" + k + ", 1)", village, village.floodIf(k, 1), 1);
            doc.refused("floodIf(" + k + ", 1000)", village, village.floodIf(k, 1000), 1);
        }
        says("35", "2.");
        for (int carries : new int[] {-1, 1000, Integer.MIN_VALUE, Integer.MAX_VALUE}) {
            doc.refused("floodIf(2, " + carries + ")", village, village.floodIf(2, carries), 2);
        }
    }

    private void narrow() {
        says("36", "Ditches by which, carrying one more, FLOOD is more, as bits.");
        doc.due("village", village.narrow(), 6);
        doc.due("diamond", diamond.narrow(), 22);
        doc.due("not one of a row", row.narrow(), 0);
        doc.due("one", pair.narrow(), 1);
        doc.due("none", bare.narrow(), 0);
        doc.due("not refused", bare.trouble(), 0);
        StringBuilder nine = new StringBuilder(Village.ZEROS + ";field a;field b;field c;field d;field e;field f");
        String[] ways = {"b c", "c b", "c d", "d c", "d e", "e d", "b e", "e b", "a f"};
        for (String way : ways) {
            nine.append(";ditch " + way + " carries 99");
        }
        doc.due("the ninth, of 99", Check.with(nine.toString()).narrow(), 256);
        says("36", "NONE: 1 (no CHALET).");
        doc.refused("narrow()", none, none.narrow(), 1);
    }

    private void downhill() {
        says("37", "Fields to which water comes from one at all, as bits, itself too.");
        int[] down = {15, 14, 12, 8};
        for (int f = 0; f < 4; f++) {
            doc.due("diamond downhill(" + f + ")", diamond.downhill(f), down[f]);
        }
        doc.due("alone", single.downhill(0), 1);
        StringBuilder chain = new StringBuilder(Village.ZEROS + ";field a;field b;field c;field d;field e;field f");
        for (String way : new String[] {"b a", "c b", "d c", "e d", "f e"}) {
            chain.append(";ditch " + way + " carries 1");
        }
        ChaletRule six = Check.with(chain.toString());
        for (int f = 0; f < 6; f++) {
            doc.due("from the last told ditch to the first, downhill(" + f + ")", six.downhill(f), (2 << f) - 1);
        }
        says("37", "NONE: 1.");
        doc.refused("no CHALET", none, none.downhill(0), 1);
        doc.refused("no fields", bare, bare.downhill(0), 1);
        for (int f : new int[] {-1, 3, 6, 32, Integer.MIN_VALUE, Integer.MAX_VALUE}) {
            doc.refused("downhill(" + f + ")", village, village.downhill(f), 1);
        }
    }
}
