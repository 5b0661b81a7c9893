/** Promises 24 to 30: which wood and oil it is. */
public final class MakesTest {
    private static final Check CHECK = new Check();

    public static void main(String[] args) {
        refusals();
        nothingSeen();
        noneOnTheFirstDay();
        oneLeft();
        noneLeft();
        judge();
        onlyTheTextTells();
        CHECK.end("MakesTest");
    }

    private static void refusals() {
        ChaletRule x = new ChaletRule();
        CHECK.refused("makes", x, x.makes(), 1);
        CHECK.refused("makeAt", x, x.makeAt(0), 1);
        CHECK.refused("could", x, x.could(false), 1);
        CHECK.refused("surely", x, x.surely(true), 1);
        CHECK.refused("look", x, x.look(), 1);
        CHECK.refused("lookLeaves", x, x.lookLeaves(), 1);
        CHECK.refused("judge", x, x.judge(), 1);
        Check.read(x, Village.TEXT);
        for (int i : new int[] {-1, 30, 40, Integer.MIN_VALUE, Integer.MAX_VALUE}) {
            CHECK.refused("makeAt(" + i + ")", x, x.makeAt(i), 1);
        }
        x.makeAt(29);
        CHECK.due("not refused", x.trouble(), 0);
    }

    /** Damp 15 pulls by 3: behind the first day oil 0, and oil 1 held by wood 9, are not out yet. */
    private static void nothingSeen() {
        ChaletRule x = Check.with(Village.chalet(15, 0, 0, 0));
        CHECK.due("makes()", x.makes(), 40);
        for (int i = 0; i < 40; i++) {
            CHECK.due("makeAt(" + i + ")", x.makeAt(i), i / 4 * 10 + i % 4);
        }
        CHECK.due("could(false)", x.could(false), 1023);
        CHECK.due("could(true)", x.could(true), 15);
        CHECK.due("surely(false)", x.surely(false), -2);
        CHECK.due("surely(true)", x.surely(true), -2);
        CHECK.due("look()", x.look(), 0);
        CHECK.due("lookLeaves()", x.lookLeaves(), 29);
        CHECK.due("judge()", x.judge(), -2);
    }

    /** Damp 80: all of oil 0, and oil 1 held by wood 2 and more; day 1 tells these two apart. */
    private static void noneOnTheFirstDay() {
        ChaletRule x = Check.with(Village.chalet(80, 1, 1, 0) + ";saw day 0 none");
        int[] want = {0, 10, 20, 21, 30, 31, 40, 41, 50, 51, 60, 61, 70, 71, 80, 81, 90, 91};
        CHECK.due("makes()", x.makes(), 18);
        for (int i = 0; i < 18; i++) {
            CHECK.due("makeAt(" + i + ")", x.makeAt(i), want[i]);
        }
        CHECK.due("could(false)", x.could(false), 1023);
        CHECK.due("could(true)", x.could(true), 3);
        CHECK.due("surely(true)", x.surely(true), -2);
        CHECK.due("look()", x.look(), 1);
        CHECK.due("lookLeaves()", x.lookLeaves(), 10);
        ChaletRule two = Check.with(Village.chalet(80, 1, 1, 0) + ";saw day 0 none;saw day 20 none");
        CHECK.due("two: makes()", two.makes(), 8);
        CHECK.due("two: could(false)", two.could(false), 1020);
        CHECK.due("two: surely(false)", two.surely(false), -2);
        CHECK.due("two: surely(true)", two.surely(true), 0);
        CHECK.due("two: look()", two.look(), 0);
        CHECK.due("two: lookLeaves()", two.lookLeaves(), 8);
    }

    private static void oneLeft() {
        ChaletRule x = Check.with(Village.chalet(15, 0, 0, 0) + ";saw day 20 none");
        CHECK.due("makes()", x.makes(), 1);
        CHECK.due("makeAt(0)", x.makeAt(0), 90);
        CHECK.due("could(false)", x.could(false), 512);
        CHECK.due("could(true)", x.could(true), 1);
        CHECK.due("surely(false)", x.surely(false), 9);
        CHECK.due("surely(true)", x.surely(true), 0);
        CHECK.due("look()", x.look(), 0);
        CHECK.due("lookLeaves()", x.lookLeaves(), 1);
        CHECK.due("judge()", x.judge(), 0);
    }

    private static void noneLeft() {
        ChaletRule x = Check.with(Village.chalet(80, 1, 1, 0) + ";saw day 0 both");
        CHECK.due("makes()", x.makes(), 0);
        CHECK.refused("makeAt(0)", x, x.makeAt(0), 1);
        CHECK.due("could(false)", x.could(false), 0);
        CHECK.due("surely(false)", x.surely(false), -2);
        CHECK.due("surely(true)", x.surely(true), -2);
        CHECK.due("look()", x.look(), -2);
        CHECK.due("lookLeaves()", x.lookLeaves(), -2);
        CHECK.due("not refused", x.trouble(), 0);
        ChaletRule both = Check.with(Village.chalet(50, 1, 1, 0) + ";saw day 7 both");
        CHECK.due("both: oil 3 alone", both.makes(), 10);
        CHECK.due("both: surely(true)", both.surely(true), 3);
        CHECK.due("both: look()", both.look(), 0);
        CHECK.due("both: lookLeaves()", both.lookLeaves(), 10);
    }

    /** As told: he is out behind day 0 already; the number is that of what was seen, not of its day. */
    private static void judge() {
        CHECK.due("village", Check.with(Village.TEXT).judge(), -2);
        String house = Village.chalet(80, 1, 1, 0);
        CHECK.due("first", Check.with(house + ";saw day 0 none").judge(), 0);
        CHECK.due("third", Check.with(house + ";saw day 9 he;saw day 0 he;saw day 20 she;saw day 1 none").judge(), 2);
        CHECK.due("none", Check.with(house + ";saw day 20 he;saw day 0 he").judge(), -2);
    }

    private static void onlyTheTextTells() {
        ChaletRule x = Check.with(Village.TEXT);
        CHECK.due("look()", x.look(), 0);
        CHECK.due("lookLeaves()", x.lookLeaves(), 22);
        x.open(1);
        x.day();
        x.oil();
        x.day();
        CHECK.due("makes()", x.makes(), 30);
        CHECK.due("lookLeaves() later", x.lookLeaves(), 22);
        CHECK.due("judge()", x.judge(), -2);
        CHECK.due("oil as NOW", x.beam(3), 2);
        Check.read(x, Village.chalet(15, 0, 0, 0) + ";saw day 20 none");
        CHECK.due("another text", x.makes(), 1);
        Check.read(x, Village.ZEROS + ";");
        CHECK.due("a faulty text", x.makes(), 1);
    }
}
