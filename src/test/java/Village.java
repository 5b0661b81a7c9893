/** The texts that several tests use. */
final class Village {
    /** The village of the shared runs. */
    static final String TEXT = "chalet damp 80 wood 1 oil 1 gust 50;weather wet 15 fine 20;vent flue wet 4 costs 3;"
            + "vent sash fine 5 costs 2;plan fair on 2 fine worth 20;plan flood on 3 wet worth 9;saw day 1 he;"
            + "saw day 4 he;field hill;field mill;field town;ditch hill mill carries 7;ditch mill town carries 5;"
            + "ditch hill town carries 3";

    /** A text of one line with nothing but zeros, for others to go on with. */
    static final String ZEROS = "chalet damp 0 wood 0 oil 0 gust 0";

    private Village() {
    }

    static String chalet(int damp, int wood, int oil, int gust) {
        return "chalet damp " + damp + " wood " + wood + " oil " + oil + " gust " + gust;
    }
}
