/** Promises 24 to 30: which wood and oil it is. */
final class MakesSentences {
    private final Sentences doc;
    private final ChaletRule none = new ChaletRule();

    /** Behind the first DAY none is out: all of oil 0, and oil 1 that wood 2 or more holds. */
    private final ChaletRule eighteen = Check.with(Village.chalet(80, 1, 1, 0) + ";saw day 0 none");
    private final ChaletRule both = Check.with(Village.chalet(50, 1, 1, 0) + ";saw day 20 both");
    private final ChaletRule never = Check.with(Village.chalet(80, 1, 1, 0) + ";saw day 0 both");
    private final ChaletRule one = Check.with(Village.chalet(15, 0, 0, 0) + ";saw day 20 none");
    private final ChaletRule all = Check.with(Village.ZEROS);

    MakesSentences(Sentences doc) {
        this.doc = doc;
    }

    void all() {
        term();
        makes();
        could();
        surely();
        look();
        judge();
    }

    private void says(String section, String quote) {
        doc.says(section, quote);
    }

    private void term() {
        says("III", "MAKES: woods and oils (0 .. 9, 0 .. 3)");
        doc.due("all", all.makes(), 40);
        doc.due("the first", all.makeAt(0), 0);
        doc.due("the last", all.makeAt(39), 93);
        doc.due("woods", all.could(false), 1023);
        doc.due("oils", all.could(true), 15);
        says("III", "by which from the first day on, without vents, behind the DAYS that were told those were out as seen: all such.");
        ChaletRule he = Check.with(Village.chalet(80, 1, 1, 0) + ";vent a fine 9 costs 0;saw day 0 he");
        doc.due("behind the first DAY", he.makes(), 22);
        he.open(0);
        he.day();
        he.oil();
        he.day();
        doc.due("whatever is done", he.makes(), 22);
        ChaletRule two = Check.with(Village.chalet(80, 1, 1, 0) + ";saw day 0 none;saw day 20 none");
        doc.due("all that were seen", two.makes(), 8);
        doc.due("behind DAY 20", one.makes(), 1);
        says("III", "LOOK: the day (0 .. 20) by which, it being told who is out behind it, at most fewest MAKES are left, the first such.");
        doc.due("day 1", eighteen.look(), 1);
        doc.due("it leaves", eighteen.lookLeaves(), 10);
        ChaletRule later = Check.with(Village.chalet(82, 3, 1, 0) + ";weather wet 1 fine 0;saw day 1 none");
        doc.due("day 2", later.look(), 2);
        doc.due("it leaves", later.lookLeaves(), 8);
        ChaletRule she = Check.with(Village.chalet(20, 1, 1, 0) + ";saw day 0 none");
        doc.due("of 12", she.makes(), 12);
        doc.due("she comes out: day 1", she.look(), 1);
        doc.due("it leaves", she.lookLeaves(), 10);
        doc.due("all alike: the first", two.look(), 0);
        doc.due("it leaves", two.lookLeaves(), 8);
    }

    private void makes() {
        says("24", "MAKES: how many.");
        doc.due("18", eighteen.makes(), 18);
        doc.due("none", never.makes(), 0);
        doc.due("not refused", never.trouble(), 0);
        doc.due("one", one.makes(), 1);
        doc.due("another text", Check.with(Village.ZEROS).makes(), 40);
        says("24", "NONE: 1 (no CHALET).");
        doc.refused("makes()", none, none.makes(), 1);
        says("25", "The i-th, by woods, then oils:");
        int[] want = {0, 10, 20, 21, 30, 31, 40, 41, 50, 51, 60, 61, 70, 71, 80, 81, 90, 91};
        for (int i = 0; i < want.length; i++) {
            doc.due("makeAt(" + i + ")", eighteen.makeAt(i), want[i]);
        }
        doc.due("asked for first", Check.with(Village.ZEROS).makeAt(39), 93);
        says("25", "10 times and.");
        for (int i = 0; i < 10; i++) {
            doc.due("makeAt(" + i + ")", both.makeAt(i), 10 * i + 3);
        }
        says("25", "NONE: 1 (i, too).");
        doc.refused("no CHALET", none, none.makeAt(0), 1);
        for (int i : new int[] {-1, 18, 40, Integer.MIN_VALUE, Integer.MAX_VALUE}) {
            doc.refused("makeAt(" + i + ")", eighteen, eighteen.makeAt(i), 1);
        }
        doc.refused("of all", all, all.makeAt(40), 1);
        doc.refused("of none", never, never.makeAt(0), 1);
        doc.due("the last one", eighteen.makeAt(17), 91);
        doc.due("not refused", eighteen.trouble(), 0);
    }

    private void could() {
        says("26", "Woods (or oils, oil) of some, as bits.");
        doc.due("woods of 18", eighteen.could(false), 1023);
        doc.due("oils of 18", eighteen.could(true), 3);
        doc.due("woods of one", one.could(false), 512);
        doc.due("oils of one", one.could(true), 1);
        doc.due("oils of both", both.could(true), 8);
        doc.due("woods of none", never.could(false), 0);
        doc.due("oils of none", never.could(true), 0);
        doc.due("not refused", never.trouble(), 0);
        says("26", "NONE: 1 (no CHALET).");
        doc.refused("could(false)", none, none.could(false), 1);
        doc.refused("could(true)", none, none.could(true), 1);
    }

    private void surely() {
        says("27", "The one of all;");
        doc.due("wood of one", one.surely(false), 9);
        doc.due("oil of one", one.surely(true), 0);
        doc.due("oil of both", both.surely(true), 3);
        says("27", "-2.");
        doc.due("woods of both", both.surely(false), -2);
        doc.due("oils of 18", eighteen.surely(true), -2);
        doc.due("woods of none", never.surely(false), -2);
        doc.due("oils of none", never.surely(true), -2);
        doc.due("not refused", never.trouble(), 0);
        says("27", "NONE: 1 (no CHALET).");
        doc.refused("surely(false)", none, none.surely(false), 1);
        doc.refused("surely(true)", none, none.surely(true), 1);
    }

    private void look() {
        says("28", "LOOK;");
        doc.due("look()", eighteen.look(), 1);
        doc.due("of one", one.look(), 0);
        doc.due("not refused", one.trouble(), 0);
        says("28", "-2 no MAKES.");
        doc.due("look()", never.look(), -2);
        doc.due("not refused", never.trouble(), 0);
        says("28", "NONE: 1 (no CHALET).");
        doc.refused("look()", none, none.look(), 1);
        says("29", "How many are left at most then;");
        doc.due("lookLeaves()", eighteen.lookLeaves(), 10);
        doc.due("of one", one.lookLeaves(), 1);
        doc.due("of both", both.lookLeaves(), 10);
        says("29", "-2 likewise.");
        doc.due("lookLeaves()", never.lookLeaves(), -2);
        doc.due("not refused", never.trouble(), 0);
        says("29", "NONE: 1 (no CHALET).");
        doc.refused("lookLeaves()", none, none.lookLeaves(), 1);
    }

    private void judge() {
        says("30", "The first seen, as told, that isn't so by wood and oil as told;");
        String house = Village.chalet(80, 1, 1, 0);
        doc.due("the first", Check.with(house + ";saw day 0 none").judge(), 0);
        doc.due("as told, not by day", Check.with(house + ";saw day 20 she;saw day 0 none").judge(), 0);
        doc.due("the last of five", Check.with(house + ";saw day 9 he;saw day 0 he;saw day 20 he;saw day 5 he;saw day 1 none").judge(), 4);
        ChaletRule x = Check.with(house + ";vent a fine 9 costs 0;saw day 0 he;saw day 1 she");
        doc.due("the second", x.judge(), 1);
        x.oil();
        x.open(0);
        x.day();
        doc.due("oil as told, and no vents", x.judge(), 1);
        says("30", "-2.");
        doc.due("all are so", Check.with(house + ";saw day 20 he;saw day 0 he").judge(), -2);
        doc.due("none were seen", all.judge(), -2);
        doc.due("not refused", all.trouble(), 0);
        says("30", "NONE: 1 (no CHALET).");
        doc.refused("judge()", none, none.judge(), 1);
    }
}
