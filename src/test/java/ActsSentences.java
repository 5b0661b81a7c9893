/** Promises 42 to 50, and term IV: acts, undoing, images, and what is told. */
final class ActsSentences {
    private static final int THROWN = -1000;

    private final Sentences doc;
    private final ChaletRule none = new ChaletRule();

    ActsSentences(Sentences doc) {
        this.doc = doc;
    }

    void all() {
        acts();
        open();
        oil();
        day();
        undo();
        images();
        led();
        size();
        trouble();
        numbers();
    }

    private void says(String section, String quote) {
        doc.says(section, quote);
    }

    private static void days(ChaletRule x, int n) {
        for (int i = 0; i < n; i++) {
            x.day();
        }
    }

    private void acts() {
        says("III", "ACTS: OPEN a vent (for the next DAY), OIL (one more), DAY.");
        ChaletRule x = Check.with(Village.TEXT);
        x.open(1);
        doc.due("open", x.vent(1, 3), 1);
        doc.due("one ACT", x.size(11), 1);
        x.oil();
        doc.due("one more", x.beam(3), 2);
        doc.due("two ACTS", x.size(11), 2);
        x.day();
        doc.due("for the next DAY: -2 by sash", x.beam(0), 7);
        doc.due("three ACTS", x.size(11), 3);
        doc.due("shut", x.vent(1, 3), 0);
        says("III", "UNDO: the latest (16 are kept).");
        ChaletRule many = Check.with(Village.ZEROS + ";weather wet 0 fine 0");
        for (int acts = 1; acts <= 33; acts++) {
            many.day();
            doc.due("kept", many.size(11), Math.min(16, acts));
        }
        for (int i = 1; i <= 16; i++) {
            doc.is("undo()", many, many.undo(), 0);
            doc.due("DAYS", many.size(10), 33 - i);
            doc.due("left", many.size(11), 16 - i);
        }
        doc.is("the seventeenth", many, many.undo(), 6);
        doc.due("17 DAYS", many.size(10), 17);
        days(many, 2);
        doc.is("kept again", many, many.undo(), 0);
        doc.due("18 DAYS", many.size(10), 18);
        says("III", "IMAGES: up to 3;");
        for (int i = 0; i < 3; i++) {
            doc.due("image()", x.image(), i);
        }
        doc.refused("a fourth", x, x.image(), 3);
        doc.due("three", x.size(12), 3);
        says("III", "gone back to one, nothing can be undone.");
        doc.due("three ACTS", x.size(11), 3);
        x.back(2);
        doc.due("none", x.size(11), 0);
        doc.is("undo()", x, x.undo(), 6);
        x.day();
        doc.is("later ones can", x, x.undo(), 0);
        doc.is("no more", x, x.undo(), 6);
    }

    private void open() {
        says("42", "OPEN: true;");
        ChaletRule x = Check.with(Village.ZEROS + ";vent a wet 1 costs 0;vent b wet 1 costs 0;vent c wet 1 costs 0;vent d wet 1 costs 0");
        for (int k = 3; k >= 0; k--) {
            doc.is("open(" + k + ")", x, x.open(k), 0);
            doc.due("vent(" + k + ", 3)", x.vent(k, 3), 1);
        }
        says("42", "false: 1;");
        for (int k : new int[] {-1, 4, 32, Integer.MIN_VALUE, Integer.MAX_VALUE}) {
            doc.is("open(" + k + ")", x, x.open(k), 1);
        }
        ChaletRule bare = Check.with(Village.ZEROS);
        doc.is("no vents", bare, bare.open(0), 1);
        doc.is("no CHALET", none, none.open(0), 1);
        doc.due("no ACTS", x.size(11), 4);
        says("42", "5 (it is open).");
        doc.is("open(0)", x, x.open(0), 5);
        doc.is("open(3)", x, x.open(3), 5);
        doc.due("no ACTS", x.size(11), 4);
        x.day();
        doc.is("shut by the DAY", x, x.open(0), 0);
        x.undo();
        doc.is("shut by undoing", x, x.open(0), 0);
    }

    private void oil() {
        says("43", "OIL: how much there is then.");
        ChaletRule x = Check.with(Village.ZEROS);
        for (int oil = 1; oil <= 3; oil++) {
            doc.due("oil()", x.oil(), oil);
            doc.due("not refused", x.trouble(), 0);
            doc.due("beam(3)", x.beam(3), oil);
        }
        doc.due("as told", x.size(1), 0);
        says("43", "NONE: 1 (no CHALET);");
        doc.refused("oil()", none, none.oil(), 1);
        says("43", "5 (there are 3).");
        doc.refused("oil()", x, x.oil(), 5);
        doc.due("3", x.beam(3), 3);
        doc.due("no ACT", x.size(11), 3);
        ChaletRule told = Check.with(Village.chalet(0, 0, 3, 0));
        doc.refused("3 as told", told, told.oil(), 5);
        x.undo();
        doc.due("again", x.oil(), 3);
    }

    private void day() {
        says("44", "DAY: its WEATHER.");
        ChaletRule wet = Check.with(Village.chalet(80, 0, 1, 0));
        ChaletRule fine = Check.with(Village.chalet(0, 0, 1, 0));
        doc.due("still", wet.day(), 0);
        doc.due("wet", wet.day(), 1);
        doc.due("still", fine.day(), 0);
        doc.due("fine", fine.day(), 2);
        doc.due("not refused", fine.trouble(), 0);
        doc.due("two DAYS", fine.size(10), 2);
        says("44", "NONE: 1 (no CHALET);");
        doc.refused("day()", none, none.day(), 1);
        says("44", "3 (999 went by).");
        days(fine, 996);
        doc.due("998 DAYS", fine.size(10), 998);
        doc.due("the last one", fine.day(), 2);
        doc.due("not refused", fine.trouble(), 0);
        doc.refused("day()", fine, fine.day(), 3);
        doc.due("999 DAYS", fine.size(10), 999);
        fine.undo();
        doc.due("998 DAYS again", fine.size(10), 998);
        doc.due("there is room again", fine.day(), 2);
    }

    private void undo() {
        says("45", "UNDO: true;");
        ChaletRule x = Check.with(Village.TEXT);
        x.day();
        x.oil();
        x.open(1);
        x.day();
        doc.is("the DAY", x, x.undo(), 0);
        int[] ahead = {11, 80, 1, 2, 0};
        for (int what = 0; what < ahead.length; what++) {
            doc.due("beam(" + what + ")", x.beam(what), ahead[what]);
        }
        doc.due("sash is open", x.vent(1, 3), 1);
        doc.due("one DAY", x.size(10), 1);
        doc.is("the vent", x, x.undo(), 0);
        doc.due("sash is shut", x.vent(1, 3), 0);
        doc.is("the oil", x, x.undo(), 0);
        doc.due("oil", x.beam(3), 1);
        doc.is("the first DAY", x, x.undo(), 0);
        doc.due("angle", x.beam(0), 9);
        doc.due("no DAY", x.size(10), 0);
        says("45", "false: 6.");
        doc.is("none left", x, x.undo(), 6);
        doc.is("no CHALET", none, none.undo(), 6);
        ChaletRule fresh = Check.with(Village.TEXT);
        fresh.open(7);
        fresh.image();
        doc.is("none yet: refused ones and IMAGES are no ACTS", fresh, fresh.undo(), 6);
    }

    private void images() {
        says("46", "An IMAGE: its number.");
        ChaletRule x = Check.with(Village.TEXT);
        x.open(1);
        for (int i = 0; i < 3; i++) {
            doc.due("image()", x.image(), i);
            doc.due("not refused", x.trouble(), 0);
            x.day();
        }
        says("46", "NONE: 1 (no CHALET);");
        doc.refused("image()", none, none.image(), 1);
        says("46", "3.");
        doc.refused("image()", x, x.image(), 3);
        x.back(0);
        doc.refused("all stay", x, x.image(), 3);
        doc.due("the third one is as it was", x.back(2), true);
        doc.due("two DAYS", x.size(10), 2);
        says("47", "All is as by an IMAGE");
        x = Check.with(Village.TEXT);
        days(x, 4);
        x.oil();
        x.open(0);
        x.image();
        while (x.undo()) {
            doc.due("not refused", x.trouble(), 0);
        }
        x.open(1);
        x.day();
        x.open(1);
        days(x, 3);
        doc.due("another course: fair is kept", Check.led(x, 0), 0);
        doc.is("back(0)", x, x.back(0), 0);
        int[] then = {14, 100, 1, 2, 1};
        for (int what = 0; what < then.length; what++) {
            doc.due("beam(" + what + ")", x.beam(what), then[what]);
        }
        doc.due("flue is open", x.vent(0, 3), 1);
        doc.due("sash is shut", x.vent(1, 3), 0);
        doc.due("four DAYS", x.size(10), 4);
        doc.due("flood was kept", Check.led(x, 0), 1);
        doc.due("fair wasn't", x.plan(0, 3), 0);
        says("47", "(all IMAGES stay): true;");
        doc.due("one", x.size(12), 1);
        x.day();
        doc.due("another", x.image(), 1);
        doc.is("back(0)", x, x.back(0), 0);
        doc.due("both", x.size(12), 2);
        doc.is("back(1)", x, x.back(1), 0);
        doc.due("five DAYS", x.size(10), 5);
        says("47", "false: 1.");
        x.day();
        for (int image : new int[] {-1, 2, 3, Integer.MIN_VALUE, Integer.MAX_VALUE}) {
            doc.is("back(" + image + ")", x, x.back(image), 1);
        }
        doc.due("nothing changes", x.size(10), 6);
        doc.due("it can be undone", x.size(11), 1);
        doc.is("no CHALET", none, none.back(0), 1);
    }

    private void led() {
        says("48", "The i-th plan, by numbers, of DAYS gone by that was KEPT.");
        ChaletRule x = Check.with(Village.chalet(80, 1, 1, 0) + ";plan a on 2 wet worth 0;plan b on 1 fine worth 1;plan c on 1 wet worth 2;"
                + "plan d on 0 wet worth 3;plan e on 20 wet worth 4;plan f on 19 wet worth 5");
        days(x, 2);
        doc.due("c", Check.led(x, 0), 2);
        x.day();
        doc.due("a", Check.led(x, 0), 0);
        doc.due("then c", Check.led(x, 1), 2);
        days(x, 17);
        doc.due("then f", Check.led(x, 2), 5);
        x.day();
        doc.due("e ahead of f", Check.led(x, 2), 4);
        doc.due("f", Check.led(x, 3), 5);
        x.undo();
        doc.due("undone", Check.led(x, 2), 5);
        says("48", "NoSuchElementException if there is none such.");
        for (int i : new int[] {-1, 3, 6, Integer.MIN_VALUE, Integer.MAX_VALUE}) {
            doc.due("led(" + i + ")", Check.led(x, i), THROWN);
        }
        doc.due("no CHALET", Check.led(none, 0), THROWN);
        doc.due("no DAYS gone by", Check.led(Check.with(Village.TEXT), 0), THROWN);
        doc.due("no plans", Check.led(Check.with(Village.ZEROS), 0), THROWN);
    }

    private void size() {
        says("49", "0 wood, 1 oil as told, 2 gust, 3 wet, 4 fine, 5 vents, 6 plans, 7 seen, 8 fields, 9 ditches,");
        ChaletRule x = Check.with(Village.chalet(1, 2, 1, 4) + ";weather wet 5 fine 6;vent a wet 1 costs 0;plan b on 0 wet worth 0;"
                + "plan c on 0 wet worth 0;saw day 0 he;saw day 1 he;saw day 2 he;field d;field e;field f;field g;ditch d e carries 1;"
                + "ditch e d carries 1;ditch d f carries 1;ditch f d carries 1;ditch d g carries 1");
        x.oil();
        int[] told = {2, 1, 4, 5, 6, 1, 2, 3, 4, 5};
        for (int what = 0; what < told.length; what++) {
            doc.due("size(" + what + ")", x.size(what), told[what]);
        }
        says("49", "10 DAYS gone by, 11 ACTS that can be undone, 12 IMAGES, 13 bytes of THE TAPE.");
        days(x, 2);
        x.image();
        x.feed(0, 0, 0, 0, 0);
        x.feed(0, 0, 0, 0, 0);
        doc.due("size(10)", x.size(10), 2);
        doc.due("size(11)", x.size(11), 3);
        doc.due("size(12)", x.size(12), 1);
        doc.due("size(13)", x.size(13), 40);
        says("49", "NONE for others;");
        for (int what : new int[] {-1, 14, Integer.MIN_VALUE, Integer.MAX_VALUE}) {
            doc.due("size(" + what + ")", x.size(what), -1);
            doc.due("no CHALET, size(" + what + ")", none.size(what), -1);
        }
        says("49", "0 for what there isn't.");
        for (int what = 0; what <= 13; what++) {
            doc.due("size(" + what + ")", none.size(what), 0);
        }
        ChaletRule bare = Check.with(Village.ZEROS);
        for (int what = 5; what <= 13; what++) {
            doc.due("a bare CHALET, size(" + what + ")", bare.size(what), 0);
        }
    }

    private void trouble() {
        says("50", "TROUBLE.");
        ChaletRule x = new ChaletRule();
        doc.due("at first", x.trouble(), 0);
        x.beam(0);
        doc.due("trouble()", x.trouble(), 1);
        doc.due("again", x.trouble(), 1);
        says("IV", "TROUBLE of the latest call that may be refused (those of which a number is told here):");
        x.undo();
        for (int i = 0; i < 50; i++) {
            x.feed(i, i, i, i, i);
            x.fault();
            x.where();
            x.trouble();
            x.size(i);
            Check.led(x, i);
        }
        doc.due("no number is told of these", x.trouble(), 6);
        x.stays();
        doc.due("the latest", x.trouble(), 1);
        says("IV", "0 it wasn't;");
        Check.read(x = new ChaletRule(), Village.TEXT);
        doc.due("chalet()", x.trouble(), 0);
        x.beam(9);
        x.when(2);
        doc.due("-2 is no refusal", x.trouble(), 0);
        says("IV", "1 there is none such;");
        x.vent(2, 0);
        doc.due("vent(2, 0)", x.trouble(), 1);
        says("IV", "2 a number;");
        x.goes(101);
        doc.due("goes(101)", x.trouble(), 2);
        says("IV", "3 no room;");
        for (int i = 0; i < 4; i++) {
            x.image();
        }
        doc.due("image()", x.trouble(), 3);
        says("IV", "4 a FAULT;");
        x.chalet(0);
        doc.due("an empty text", x.trouble(), 4);
        says("IV", "5 not so;");
        x.open(0);
        x.open(0);
        doc.due("open(0)", x.trouble(), 5);
        says("IV", "6 there is none.");
        x.undo();
        x.undo();
        doc.due("undo()", x.trouble(), 6);
    }

    private void numbers() {
        says("IV", "Numbers: WHO 0 none, 1 he, 2 she, 3 both;");
        String[] who = {"none", "he", "she", "both"};
        int[] damps = {50, 80, 20, 50};
        int[] oils = {0, 1, 1, 3};
        for (int i = 0; i < 4; i++) {
            ChaletRule x = Check.with(Village.chalet(damps[i], 0, oils[i], 0) + ";saw day 0 " + who[i]);
            doc.due(who[i], x.whoIn(1), i);
            doc.due(who[i] + " as seen", x.judge(), -2);
            doc.due(who[i] + " by a row", x.rowFor(i, 1), 0);
            doc.due(who[i] + " by chance", x.likely(i, 1, false), 1);
        }
        says("IV", "WEATHER 0 still, 1 wet, 2 fine;");
        int[] weathers = {0, 1, 2};
        for (int i = 0; i < 3; i++) {
            ChaletRule x = Check.with(Village.chalet(damps[i], 0, oils[i], 0));
            x.day();
            doc.due("daysOf", x.daysOf(i, 1), 1);
            doc.due("day()", x.day(), weathers[i]);
            doc.due("beam(4)", x.beam(4), weathers[i]);
        }
        says("IV", "an ANGLE and 9.");
        ChaletRule fine = Check.with(Village.chalet(0, 0, 3, 0) + ";vent a fine 9 costs 0");
        int[] angles = {9, 5, 1, 0};
        for (int angle : angles) {
            doc.due("beam(0)", fine.beam(0), angle);
            doc.due("angleIn(0)", fine.angleIn(0), angle);
            doc.due("gusted(0, 0)", fine.gusted(0, 0), angle);
            doc.due("value(0)", fine.value(0), angle);
            doc.due("mean(0)", fine.mean(0, false), angle);
            fine.open(0);
            fine.day();
        }
        doc.due("beam(5): -5", fine.beam(5), 4);
    }
}
