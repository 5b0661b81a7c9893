/** Promises 33 to 37: floods through ditches. */
public final class FloodsTest {
    private static final Check CHECK = new Check();
    private static final String FOUR = Village.ZEROS + ";field a;field b;field c;field d";

    public static void main(String[] args) {
        refusals();
        village();
        fewFields();
        diamond();
        likeCuts();
        roundAbout();
        CHECK.end("FloodsTest");
    }

    private static void refusals() {
        ChaletRule x = new ChaletRule();
        CHECK.refused("flood", x, x.flood(), 1);
        CHECK.refused("cut", x, x.cut(), 1);
        CHECK.refused("floodIf", x, x.floodIf(0, 1000), 1);
        CHECK.refused("narrow", x, x.narrow(), 1);
        CHECK.refused("downhill", x, x.downhill(0), 1);
        Check.read(x, Village.TEXT);
        for (int n : new int[] {-1, 3, Integer.MIN_VALUE, Integer.MAX_VALUE}) {
            CHECK.refused("floodIf(" + n + ", 0)", x, x.floodIf(n, 0), 1);
            CHECK.refused("floodIf(" + n + ", 1000)", x, x.floodIf(n, 1000), 1);
            CHECK.refused("downhill(" + n + ")", x, x.downhill(n), 1);
        }
        for (int n : new int[] {-1, 1000, Integer.MIN_VALUE, Integer.MAX_VALUE}) {
            CHECK.refused("floodIf(0, " + n + ")", x, x.floodIf(0, n), 2);
        }
        x.floodIf(2, 999);
        CHECK.due("not refused", x.trouble(), 0);
    }

    private static void village() {
        ChaletRule x = Check.with(Village.TEXT);
        CHECK.due("flood()", x.flood(), 8);
        CHECK.due("cut()", x.cut(), 3);
        CHECK.due("narrow()", x.narrow(), 6);
        int[][] ifs = {{0, 0, 3}, {0, 4, 7}, {0, 999, 8}, {1, 0, 3}, {1, 6, 9}, {1, 999, 10}, {2, 0, 5}, {2, 999, 1004}};
        for (int[] i : ifs) {
            CHECK.due("floodIf(" + i[0] + ", " + i[1] + ")", x.floodIf(i[0], i[1]), i[2]);
        }
        CHECK.due("flood() stays", x.flood(), 8);
        int[] down = {7, 6, 4};
        for (int f = 0; f < 3; f++) {
            CHECK.due("downhill(" + f + ")", x.downhill(f), down[f]);
        }
    }

    private static void fewFields() {
        ChaletRule none = Check.with(Village.ZEROS);
        CHECK.due("no field: flood()", none.flood(), 0);
        CHECK.due("no field: cut()", none.cut(), -2);
        CHECK.due("no field: narrow()", none.narrow(), 0);
        CHECK.due("not refused", none.trouble(), 0);
        CHECK.refused("no field: downhill(0)", none, none.downhill(0), 1);
        ChaletRule one = Check.with(Village.ZEROS + ";field f");
        CHECK.due("one field: flood()", one.flood(), 0);
        CHECK.due("one field: cut()", one.cut(), -2);
        CHECK.due("one field: downhill(0)", one.downhill(0), 1);
        ChaletRule two = Check.with(Village.ZEROS + ";field f;field g");
        CHECK.due("no ditch: flood()", two.flood(), 0);
        CHECK.due("no ditch: cut()", two.cut(), 1);
        CHECK.due("no ditch: narrow()", two.narrow(), 0);
        ChaletRule pair = Check.with(Village.ZEROS + ";field f;field g;ditch f g carries 9");
        CHECK.due("one ditch: flood()", pair.flood(), 9);
        CHECK.due("one ditch: cut()", pair.cut(), 1);
        CHECK.due("one ditch: narrow()", pair.narrow(), 1);
        CHECK.due("one ditch: floodIf(0, 0)", pair.floodIf(0, 0), 0);
        ChaletRule up = Check.with(Village.ZEROS + ";field f;field g;ditch g f carries 9");
        CHECK.due("the wrong way: flood()", up.flood(), 0);
        CHECK.due("the wrong way: downhill", up.downhill(0) * 10 + up.downhill(1), 13);
    }

    /** a to b and c, these to d, and a ditch from b to c that lets 2 more through: all of the cut of a and b are narrow. */
    private static void diamond() {
        ChaletRule x = Check.with(FOUR + ";ditch a b carries 6;ditch a c carries 1;ditch b d carries 3;ditch c d carries 9;"
                + "ditch b c carries 2");
        CHECK.due("flood()", x.flood(), 6);
        CHECK.due("cut()", x.cut(), 3);
        CHECK.due("narrow()", x.narrow(), 22);
        CHECK.due("without the middle one", x.floodIf(4, 0), 4);
        CHECK.due("more in the middle", x.floodIf(4, 9), 7);
        CHECK.due("downhill(1)", x.downhill(1), 14);
        CHECK.due("downhill(2)", x.downhill(2), 12);
    }

    private static void likeCuts() {
        ChaletRule x = Check.with(FOUR + ";ditch a b carries 2;ditch b c carries 2;ditch c d carries 2");
        CHECK.due("flood()", x.flood(), 2);
        CHECK.due("the least bits", x.cut(), 1);
        CHECK.due("no single one", x.narrow(), 0);
        CHECK.due("one less", x.floodIf(1, 1), 1);
    }

    private static void roundAbout() {
        ChaletRule x = Check.with(Village.ZEROS + ";field a;field b;field c;field d;field e;field f;ditch a e carries 5;"
                + "ditch e b carries 4;ditch b d carries 9;ditch d c carries 3;ditch c f carries 7;ditch b e carries 9;"
                + "ditch f a carries 9;ditch d f carries 1;ditch c d carries 1");
        CHECK.due("flood()", x.flood(), 4);
        CHECK.due("cut()", x.cut(), 17);
        CHECK.due("all", x.downhill(3), 63);
        CHECK.due("narrow()", x.narrow(), 0);
    }
}
