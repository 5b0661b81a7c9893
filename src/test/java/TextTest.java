import java.nio.charset.StandardCharsets;

/** Promises 1 to 5: a new object, the tape, and texts with their faults. */
public final class TextTest {
    private static final Check CHECK = new Check();
    private static final String Z = Village.ZEROS;

    public static void main(String[] args) {
        aNewObject();
        theTape();
        chaletsThatAreRead();
        form();
        untold();
        again();
        bounds();
        many();
        lacks();
        whichFaultIsFirst();
        whatStaysWhenRefused();
        faultAndWhere();
        CHECK.end("TextTest");
    }

    private static void aNewObject() {
        ChaletRule x = new ChaletRule();
        CHECK.due("new trouble()", x.trouble(), 0);
        CHECK.due("new fault()", x.fault(), 0);
        CHECK.due("new where()", x.where(), -1);
        for (int what = 0; what <= 13; what++) {
            CHECK.due("new size(" + what + ")", x.size(what), 0);
        }
        CHECK.refused("new beam(0)", x, x.beam(0), 1);
    }

    private static void theTape() {
        ChaletRule x = new ChaletRule();
        x.beam(0);
        for (int i = 1; i <= 45; i++) {
            CHECK.due("feed " + i, x.feed(0, 0, 0, 0, 0), 20 * i);
        }
        CHECK.due("feed 46", x.feed(0, 0, 0, 0, 0), -1);
        CHECK.due("none came", x.size(13), 900);
        CHECK.due("feed tells no trouble", x.trouble(), 1);
        CHECK.refused("chalet(901)", x, x.chalet(901), 2);
        CHECK.refused("chalet(-1)", x, x.chalet(-1), 2);
        CHECK.refused("chalet(most)", x, x.chalet(Integer.MAX_VALUE), 2);
        CHECK.refused("chalet(least)", x, x.chalet(Integer.MIN_VALUE), 2);
        CHECK.due("the tape stays", x.size(13), 900);
        CHECK.refused("chalet(900) of zero bytes", x, x.chalet(900), 4);
        CHECK.due("the tape is empty then", x.size(13), 0);
        CHECK.refused("chalet(1) of none", x, x.chalet(1), 2);
        highestFirst();
        allOfTheTape();
    }

    /** "chalet damp 7 wood 0 oil 0 gust 1 x": only the first 34 bytes are the text. */
    private static void highestFirst() {
        ChaletRule x = new ChaletRule();
        x.feed(0x6368616c, 0x65742064, 0x616d7020, 0x3720776f, 0x6f642030);
        x.feed(0x206f696c, 0x20302067, 0x75737420, 0x31207800, 0xffffffff);
        CHECK.due("chalet(34)", x.chalet(34), 0);
        CHECK.due("its damp", x.beam(1), 7);
        CHECK.due("its gust", x.size(2), 1);
    }

    private static void allOfTheTape() {
        ChaletRule x = new ChaletRule();
        String text = Z + " ".repeat(900 - Z.length() - 2) + ";a";
        Check.put(x, text.getBytes(StandardCharsets.ISO_8859_1));
        CHECK.refused("chalet(900)", x, x.chalet(900), 4);
        CHECK.due("its place", x.where(), 899);
    }

    private static void chaletsThatAreRead() {
        ChaletRule x = new ChaletRule();
        CHECK.due("village", Check.read(x, Village.TEXT), 2);
        sizes("village", x, 1, 1, 50, 15, 20, 2, 2, 2, 3, 3);
        CHECK.due("weather if it isn't told", Check.read(x, Z), 0);
        sizes("zeros", x, 0, 0, 0, 10, 10, 0, 0, 0, 0, 0);
        CHECK.due("blanks", Check.read(x, "  chalet   damp 0 wood 0 oil 0 gust 0  ;  field   f   "), 0);
        CHECK.due("no blanks", Check.read(x, "chalet damp7wood2oil1gust3;vent v wet1costs0;saw day1he"), 1);
        sizes("no blanks", x, 2, 1, 3, 10, 10, 1, 0, 1, 0, 0);
        CHECK.due("noughts ahead", Check.read(x, "chalet damp 007 wood 02 oil 1 gust 100"), 0);
        CHECK.due("noughts ahead: damp", x.beam(1), 7);
        CHECK.due("names like other words", Check.read(x, Z + ";vent wet wet 1 costs 0;vent he fine 1 costs 0;"
                + "plan on on 1 wet worth 0;field damp;field abcdefgh;ditch damp abcdefgh carries 1"), 2);
        CHECK.due("all letters", Check.read(x, Z + ";field zebra;field jazz;ditch zebra jazz carries 1"), 0);
        CHECK.due("both ways", Check.read(x, Z + ";field f;field g;ditch f g carries 1;ditch g f carries 99"), 0);
        CHECK.due("all of the room", Check.read(x, full()), 4);
        sizes("all of the room", x, 9, 3, 100, 30, 30, 4, 6, 5, 6, 9);
        CHECK.due("most damp", x.beam(1), 100);
        CHECK.due("the least", Check.read(x, Z + ";weather wet 0 fine 0;vent v wet 1 costs 0;plan p on 0 wet worth 0;"
                + "saw day 0 none;field f;field g;ditch f g carries 1"), 1);
    }

    /** As many lines of each sort as there is room for, with the highest numbers. */
    private static String full() {
        StringBuilder s = new StringBuilder("chalet damp 100 wood 9 oil 3 gust 100");
        String[] who = {"none", "he", "she", "both", "he"};
        for (int i = 0; i < 4; i++) {
            s.append(";vent v" + (char) ('a' + i) + " fine 9 costs 99");
        }
        s.append(";weather wet 30 fine 30");
        for (int i = 0; i < 6; i++) {
            s.append(";plan p" + (char) ('a' + i) + " on 20 wet worth 99;field f" + (char) ('a' + i));
        }
        for (int i = 0; i < 5; i++) {
            s.append(";saw day " + (20 - i) + " " + who[i]);
        }
        for (int i = 0; i < 9; i++) {
            s.append(";ditch f" + (char) ('a' + i / 5) + " f" + (char) ('a' + (i / 5 + 1 + i % 5) % 6) + " carries 99");
        }
        return s.toString();
    }

    private static void sizes(String name, ChaletRule x, int... want) {
        for (int what = 0; what < want.length; what++) {
            CHECK.due(name + " size(" + what + ")", x.size(what), want[what]);
        }
    }

    /** A text that has one ^, ahead of the place of its fault. */
    private static void fault(int number, String marked) {
        int place = marked.indexOf('^');
        ChaletRule x = new ChaletRule();
        CHECK.refused(marked, x, Check.read(x, marked.replace("^", "")), 4);
        CHECK.due(marked + ": fault", x.fault(), number);
        CHECK.due(marked + ": where", x.where(), place);
    }

    private static void form() {
        String[] alone = {"^", "   ^", "^foo", "^7", "^;", "^Chalet damp 0", "chalet^", "chalet ^wet 0", "chalet damp^",
            "chalet damp  ^", "chalet damp ^-1", "chalet damp ^wood", "chalet damp 0 ^oil 0", "chalet damp 0 wood 0 ^gust",
            "chalet damp 0 wood 0 oil 0^", "chalet damp 0 wood 0 oil 0 gust ^x", "chalet damp 0 ^0", "^chaletdamp 0",
            "^chalets damp 0", "chalet damp ^1000 wood 0", "chalet damp ^0001 wood 0", "^damp 0", "^\n" + Z};
        for (String text : alone) {
            fault(1, text);
        }
        String[] behind = {"^A", " ^x", ";^", ";  ^", " ^5", "^.", "^\t", "^\u00e9", "^\0", "^\u00ff", ";^;field f",
            ";^foo", ";^3", ";^wet", ";^ventv wet 1 costs 0", ";vent ^abcdefghi wet 1 costs 0", ";vent ^saw", ";vent ^7",
            ";vent^", ";vent ^;", ";vent v^", ";vent v ^still 1 costs 0", ";vent v ^1", ";vent v wet ^costs",
            ";vent v wet 1 ^worth 0", ";vent v wet 1 costs^", ";vent v wet 1 costs 0 ^0", ";vent v wet 1 costs 0^_",
            ";plan ^chalet", ";plan p ^1", ";plan p on ^wet", ";plan p on 1 ^still worth 0", ";plan p on 1 wet ^costs 0",
            ";plan p on 1 wet worth ^;", ";saw ^1", ";saw day ^he", ";saw day 1 ^them", ";saw day 1^", ";saw day 1 ^2",
            ";field ^field", ";field ^weather", ";field f ^g", ";field^", ";ditch ^plan", ";ditch^", ";ditch ^1",
            ";field f;ditch f ^ditch", ";field f;ditch f^", ";field f;field g;ditch f g ^1",
            ";field f;field g;ditch f g carries ^f", ";weather ^fine 1", ";weather wet 1 ^wet", ";weather wet ^fine"};
        for (String text : behind) {
            fault(1, Z + text);
        }
    }

    private static void untold() {
        fault(2, Z + ";ditch ^f g carries 1");
        fault(2, Z + ";field f;ditch f ^g carries 1");
        fault(2, Z + ";vent v wet 1 costs 0;field f;ditch f ^v carries 1");
        fault(2, Z + ";plan p on 0 wet worth 0;field f;ditch ^p f carries 1");
        fault(2, Z + ";field f;ditch ^ff f carries 1");
        fault(2, Z + ";field f;ditch f ^g;field g");
    }

    private static void again() {
        fault(3, Z + ";vent v wet 1 costs 0;vent ^v fine 1 costs 0");
        fault(3, Z + ";vent v wet 1 costs 0;plan ^v on 0 wet worth 0");
        fault(3, Z + ";vent v wet 1 costs 0;field ^v");
        fault(3, Z + ";plan p on 0 wet worth 0;vent ^p wet 1 costs 0");
        fault(3, Z + ";plan p on 0 wet worth 0;plan ^p on 0 wet worth 0");
        fault(3, Z + ";field f;field ^f");
        fault(3, Z + ";field f;vent ^f");
        fault(3, Z + ";field f;field g;ditch f ^f carries 1");
        fault(3, Z + ";field f;field g;ditch f g carries 1;ditch g f carries 1;ditch f ^g carries 2");
        fault(3, Z + ";saw day 3 he;saw day 4 he;saw day ^3 she");
        fault(3, Z + ";saw day 3 he;saw day ^03");
        fault(3, Z + ";^chalet");
        fault(3, Z + ";field f;^chalet damp 0 wood 0 oil 0 gust 0");
        fault(3, Z + ";weather wet 1 fine 1;^weather");
        fault(3, Z + ";weather wet 1 fine 1;field f;^weather wet 1 fine 1");
    }

    private static void bounds() {
        String[] over = {"chalet damp ^101", "chalet damp ^999 wood", "chalet damp 0 wood ^10", "chalet damp 0 wood 0 oil ^4",
            "chalet damp 0 wood 0 oil 0 gust ^101", Z + ";weather wet ^31", Z + ";weather wet 0 fine ^31",
            Z + ";vent v wet ^0", Z + ";vent v fine ^10", Z + ";vent v wet 9 costs ^100", Z + ";plan p on ^21",
            Z + ";plan p on 20 wet worth ^100", Z + ";saw day ^21", Z + ";field f;field g;ditch f g carries ^0",
            Z + ";field f;field g;ditch f g carries ^100"};
        for (String text : over) {
            fault(4, text);
        }
    }

    private static void many() {
        StringBuilder vents = new StringBuilder(Z);
        StringBuilder plans = new StringBuilder(Z);
        StringBuilder saws = new StringBuilder(Z);
        StringBuilder fields = new StringBuilder(Z);
        for (int i = 0; i < 6; i++) {
            vents.append(i < 4 ? ";vent v" + (char) ('a' + i) + " wet 1 costs 0" : "");
            plans.append(";plan p" + (char) ('a' + i) + " on 0 wet worth 0");
            saws.append(i < 5 ? ";saw day " + i + " he" : "");
            fields.append(";field f" + (char) ('a' + i));
        }
        fault(5, vents + ";^vent va");
        fault(5, vents + ";field f;  ^vent saw");
        fault(5, plans + ";^plan");
        fault(5, saws + ";^saw day 0");
        fault(5, fields + ";^field fa");
        fault(5, full() + ";^ditch fa fa");
    }

    private static void lacks() {
        for (String word : new String[] {"weather", "vent", "plan", "saw", "field", "ditch"}) {
            fault(6, "^" + word);
            fault(6, "  ^" + word + " x;" + Z);
        }
        fault(6, "^vent saw");
        fault(6, "^field f;" + Z);
    }

    private static void whichFaultIsFirst() {
        fault(4, "chalet damp ^101 wood A");
        fault(1, "chalet damp 0 ^A wood 10");
        fault(2, Z + ";field f;ditch ^g g carries 0");
        fault(3, Z + ";field f;ditch f ^f carries 0");
        fault(4, Z + ";saw day ^21 he;saw day 21");
        fault(1, Z + ";saw day ^1111 he");
    }

    private static void whatStaysWhenRefused() {
        ChaletRule x = Check.with(Village.TEXT);
        x.day();
        x.open(1);
        x.image();
        CHECK.refused("a faulty text", x, Check.read(x, "chalet damp 1 wood 0 oil 0 gust 0;vent a wet 1 costs 1;"), 4);
        sizes("the chalet stays", x, 1, 1, 50, 15, 20, 2, 2, 2, 3, 3, 1, 2, 1, 0);
        CHECK.due("its damp stays", x.beam(1), 80);
        CHECK.due("its vent stays open", x.vent(1, 3), 1);
        CHECK.due("it can be undone", x.undo(), true);
        CHECK.due("a new text", Check.read(x, Z), 0);
        sizes("all is new", x, 0, 0, 0, 10, 10, 0, 0, 0, 0, 0, 0, 0, 0, 0);
        CHECK.due("nothing to undo", x.undo(), false);
        CHECK.due("no image", x.back(0), false);
        CHECK.due("no weather yet", x.beam(4), 0);
    }

    private static void faultAndWhere() {
        ChaletRule x = new ChaletRule();
        Check.read(x, "chalet damp 101");
        CHECK.due("where", x.where(), 12);
        x.feed(0, 0, 0, 0, 0);
        x.size(99);
        Check.led(x, 0);
        CHECK.due("calls without a number leave where()", x.where(), 12);
        CHECK.due("and trouble()", x.trouble(), 4);
        x.chalet(77);
        CHECK.due("a chalet refused by 2 leaves the fault", x.fault(), 4);
        CHECK.due("and not the place", x.where(), -1);
        CHECK.due("its trouble", x.trouble(), 2);
        x.chalet(0);
        CHECK.due("an empty text is of no form", x.fault(), 1);
        CHECK.due("at its end", x.where(), 0);
        x.undo();
        CHECK.due("another refused call", x.where(), -1);
        CHECK.due("the fault stays", x.fault(), 1);
        Check.read(x, Z);
        CHECK.due("no fault", x.fault(), 0);
        CHECK.due("no place", x.where(), -1);
        CHECK.due("no trouble", x.trouble(), 0);
    }
}
