/** Promises 42 to 50: acts, undoing, images, and what is told. */
public final class ActsTest {
    private static final Check CHECK = new Check();

    public static void main(String[] args) {
        noChalet();
        open();
        oil();
        day();
        undo();
        sixteenAreKept();
        images();
        anImageKeepsItsDays();
        led();
        size();
        trouble();
        CHECK.end("ActsTest");
    }

    private static void is(ChaletRule x, String call, boolean got, boolean want, int trouble) {
        CHECK.due(call, got, want);
        CHECK.due(call + ": trouble", x.trouble(), trouble);
    }

    private static void noChalet() {
        ChaletRule x = new ChaletRule();
        is(x, "open", x.open(0), false, 1);
        CHECK.refused("oil", x, x.oil(), 1);
        CHECK.refused("day", x, x.day(), 1);
        is(x, "undo", x.undo(), false, 6);
        CHECK.refused("image", x, x.image(), 1);
        is(x, "back", x.back(0), false, 1);
        CHECK.due("led", Check.led(x, 0), -1000);
    }

    private static void open() {
        ChaletRule x = Check.with(Village.TEXT);
        is(x, "open(0)", x.open(0), true, 0);
        is(x, "open(0) again", x.open(0), false, 5);
        is(x, "open(2)", x.open(2), false, 1);
        is(x, "open(-1)", x.open(-1), false, 1);
        is(x, "open(32)", x.open(32), false, 1);
        CHECK.due("refused ones are no acts", x.size(11), 1);
        is(x, "open(1)", x.open(1), true, 0);
        CHECK.due("both pull: 3 and 4 less 5", x.angleIn(1), 11);
        x.day();
        is(x, "open(0) behind a day", x.open(0), true, 0);
    }

    private static void oil() {
        ChaletRule x = Check.with(Village.TEXT);
        CHECK.due("oil()", x.oil(), 2);
        CHECK.due("not refused", x.trouble(), 0);
        CHECK.due("three a day", x.goes(0), 3);
        CHECK.due("oil() again", x.oil(), 3);
        CHECK.refused("oil() once more", x, x.oil(), 5);
        CHECK.due("oil NOW", x.beam(3), 3);
        CHECK.due("oil as told", x.size(1), 1);
        CHECK.due("both are out", x.beam(2), 3);
        CHECK.due("acts", x.size(11), 2);
    }

    private static void day() {
        ChaletRule x = Check.with(Village.TEXT);
        int[] weathers = {0, 1, 1, 1};
        for (int i = 0; i < 4; i++) {
            CHECK.due("day " + i, x.day(), weathers[i]);
            CHECK.due("trouble of day " + i, x.trouble(), 0);
            CHECK.due("weather of day " + i, x.beam(4), weathers[i]);
            CHECK.due("days", x.size(10), i + 1);
        }
        ChaletRule fine = Check.with(Village.chalet(0, 0, 1, 0));
        CHECK.due("still", fine.day(), 0);
        CHECK.due("fine", fine.day(), 2);
        for (int i = 2; i < 999; i++) {
            fine.day();
        }
        CHECK.due("999 days", fine.size(10), 999);
        CHECK.due("it took place", fine.trouble(), 0);
        CHECK.refused("one more", fine, fine.day(), 3);
        CHECK.due("still 999", fine.size(10), 999);
    }

    private static void undo() {
        ChaletRule x = Check.with(Village.TEXT);
        is(x, "nothing yet", x.undo(), false, 6);
        x.day();
        x.oil();
        x.open(1);
        x.day();
        CHECK.due("acts", x.size(11), 4);
        CHECK.due("two days", x.size(10), 2);
        is(x, "the day", x.undo(), true, 0);
        CHECK.due("one day", x.size(10), 1);
        CHECK.due("sash is open", x.vent(1, 3), 1);
        CHECK.due("its damp", x.beam(1), 80);
        CHECK.due("its weather", x.beam(4), 0);
        is(x, "the vent", x.undo(), true, 0);
        CHECK.due("sash is shut", x.vent(1, 3), 0);
        CHECK.due("oil", x.beam(3), 2);
        is(x, "the oil", x.undo(), true, 0);
        CHECK.due("oil as before", x.beam(3), 1);
        is(x, "the first day", x.undo(), true, 0);
        CHECK.due("angle", x.beam(0), 9);
        CHECK.due("no acts", x.size(11), 0);
        is(x, "nothing left", x.undo(), false, 6);
    }

    private static void sixteenAreKept() {
        ChaletRule x = Check.with(Village.chalet(0, 0, 0, 0) + ";weather wet 0 fine 0");
        for (int i = 0; i < 21; i++) {
            x.day();
            CHECK.due("acts", x.size(11), Math.min(16, i + 1));
        }
        for (int i = 0; i < 16; i++) {
            is(x, "undo " + i, x.undo(), true, 0);
            CHECK.due("days", x.size(10), 20 - i);
        }
        is(x, "the seventeenth", x.undo(), false, 6);
        CHECK.due("five days", x.size(10), 5);
        CHECK.due("angle", x.beam(0), 4);
    }

    private static void images() {
        ChaletRule x = Check.with(Village.TEXT);
        CHECK.due("image()", x.image(), 0);
        CHECK.due("not refused", x.trouble(), 0);
        CHECK.due("an image is no act", x.size(11), 0);
        x.open(1);
        x.oil();
        CHECK.due("second", x.image(), 1);
        x.day();
        CHECK.due("third", x.image(), 2);
        CHECK.refused("no room", x, x.image(), 3);
        CHECK.due("three", x.size(12), 3);
        is(x, "back(1)", x.back(1), true, 0);
        CHECK.due("sash is open", x.vent(1, 3), 1);
        CHECK.due("oil", x.beam(3), 2);
        CHECK.due("no day", x.size(10), 0);
        CHECK.due("nothing can be undone", x.size(11), 0);
        is(x, "undo", x.undo(), false, 6);
        is(x, "back(2)", x.back(2), true, 0);
        CHECK.due("a day", x.size(10), 1);
        is(x, "back(0)", x.back(0), true, 0);
        CHECK.due("oil at first", x.beam(3), 1);
        CHECK.due("all images stay", x.size(12), 3);
        is(x, "back(3)", x.back(3), false, 1);
        is(x, "back(-1)", x.back(-1), false, 1);
        x.day();
        is(x, "a refused back leaves what can be undone", x.back(7), false, 1);
        CHECK.due("one act", x.size(11), 1);
        is(x, "undo the day", x.undo(), true, 0);
    }

    /** Another course of days is taken ahead of going back: what went by is as it was by the image. */
    private static void anImageKeepsItsDays() {
        ChaletRule x = Check.with(Village.TEXT);
        for (int i = 0; i < 4; i++) {
            x.day();
        }
        x.image();
        for (int i = 0; i < 4; i++) {
            x.undo();
        }
        x.open(1);
        x.day();
        x.open(1);
        x.day();
        x.day();
        x.day();
        CHECK.due("fair is kept", Check.led(x, 0), 0);
        CHECK.due("flood isn't", Check.led(x, 1), -1000);
        x.back(0);
        CHECK.due("flood is kept", Check.led(x, 0), 1);
        CHECK.due("fair isn't", x.plan(0, 3), 0);
        CHECK.due("latest weather", x.beam(4), 1);
    }

    private static void led() {
        String plans = ";plan a on 2 wet worth 0;plan b on 1 fine worth 1;plan c on 1 wet worth 2;plan d on 0 wet worth 3;plan e on 20 wet worth 4";
        ChaletRule x = Check.with(Village.chalet(80, 1, 1, 0) + plans);
        CHECK.due("nothing went by", Check.led(x, 0), -1000);
        x.day();
        CHECK.due("nothing was kept", Check.led(x, 0), -1000);
        x.day();
        CHECK.due("led(0)", Check.led(x, 0), 2);
        CHECK.due("led(1)", Check.led(x, 1), -1000);
        x.day();
        x.beam(-1);
        CHECK.due("by numbers", Check.led(x, 0), 0);
        CHECK.due("then", Check.led(x, 1), 2);
        CHECK.due("no more", Check.led(x, 2), -1000);
        CHECK.due("led(-1)", Check.led(x, -1), -1000);
        CHECK.due("led(least)", Check.led(x, Integer.MIN_VALUE), -1000);
        CHECK.due("led tells no trouble", x.trouble(), 1);
        for (int i = 0; i < 30; i++) {
            x.day();
        }
        CHECK.due("led(2)", Check.led(x, 2), 4);
    }

    private static void size() {
        ChaletRule x = Check.with(Village.TEXT);
        x.feed(0, 0, 0, 0, 0);
        x.day();
        x.open(0);
        x.image();
        int[] want = {1, 1, 50, 15, 20, 2, 2, 2, 3, 3, 1, 2, 1, 20};
        for (int what = 0; what < want.length; what++) {
            CHECK.due("size(" + what + ")", x.size(what), want[what]);
        }
        x.beam(9);
        for (int what : new int[] {-1, 14, Integer.MIN_VALUE, Integer.MAX_VALUE}) {
            CHECK.due("size(" + what + ")", x.size(what), -1);
        }
        CHECK.due("size tells no trouble", x.trouble(), 1);
    }

    private static void trouble() {
        ChaletRule x = Check.with(Village.TEXT);
        CHECK.due("0", x.trouble(), 0);
        x.goes(-1);
        CHECK.due("2", x.trouble(), 2);
        CHECK.due("it stays when asked for", x.trouble(), 2);
        x.fault();
        x.where();
        x.feed(1, 1, 1, 1, 1);
        CHECK.due("calls that tell no number leave it", x.trouble(), 2);
        x.stays();
        CHECK.due("0 again", x.trouble(), 0);
        x.undo();
        CHECK.due("6", x.trouble(), 6);
        x.when(2);
        CHECK.due("-2 is no refusal", x.trouble(), 0);
    }
}
