import java.nio.charset.StandardCharsets;

/** Term I, and promises 1 to 5. */
final class TextSentences {
    private static final String Z = Village.ZEROS;
    private static final String TWO = Z + ";field f;field g";

    private final Sentences doc;

    TextSentences(Sentences doc) {
        this.doc = doc;
    }

    void all() {
        tokens();
        chaletAndWeather();
        ventsAndPlans();
        sawsAndFields();
        ditchesAndNames();
        whichFault();
        form();
        otherFaults();
        newObject();
        feed();
        chaletCall();
        faultAndWhere();
    }

    private void says(String section, String quote) {
        doc.says(section, quote);
    }

    private static String rest(String from) {
        return Z.substring(Z.indexOf(from));
    }

    private void tokens() {
        says("I", "THE TEXT of a CHALET (THE TAPE has 900 bytes;");
        String full = Z + ";field" + " ".repeat(900 - Z.length() - 7) + "f";
        doc.due("all bytes", full.length(), 900);
        doc.due("its last byte is read", doc.reads(full).size(8), 1);
        says("I", "blanks, 32, part TOKENS and mean nothing else;");
        doc.due("many blanks", doc.reads("   " + Z.replace(" ", "   ") + "  ;  field   f  ").size(8), 1);
        doc.fault(1, "chalet damp 1 ^0 wood 0 oil 0 gust 0");
        doc.fault(1, "^cha let damp 0 wood 0 oil 0 gust 0");
        for (char other : new char[] {0, 9, 10, 13, 31, 33, 127, 128, 160, 255}) {
            doc.fault(1, Z + "^" + other);
            doc.fault(1, "chalet^" + other + "damp 0");
        }
        says("I", "TOKENS: WORDS of 1 to 8 small letters that stand together,");
        doc.due("1 letter", doc.reads(Z + ";field a;field z").size(8), 2);
        doc.due("8 letters", doc.reads(Z + ";field abcdefgh").size(8), 1);
        doc.fault(1, Z + ";field ^abcdefghi");
        doc.fault(1, Z + ";field ^Abc");
        doc.fault(1, Z + ";field a^B");
        doc.fault(1, Z + ";field ^`");
        doc.fault(1, Z + ";field a^{");
        says("I", "WHOLES of 1 to 3 digits that do,");
        doc.due("1 digit", doc.reads("chalet damp 7 " + rest("wood")).beam(1), 7);
        doc.due("3 digits", doc.reads("chalet damp 100 " + rest("wood")).beam(1), 100);
        doc.due("3 digits with noughts", doc.reads("chalet damp 009 " + rest("wood")).beam(1), 9);
        doc.fault(1, "chalet damp ^0009 " + rest("wood"));
        doc.fault(1, "chalet damp ^1000 " + rest("wood"));
        doc.fault(1, "chalet damp ^/ " + rest("wood"));
        doc.fault(1, "chalet damp 1^: " + rest("wood"));
        says("I", "single ones of ;):");
        doc.fault(1, Z + ";^;field f");
        doc.fault(1, Z + "^:field f");
        says("I", "LINE {; LINE}.");
        doc.reads(Z);
        doc.due("two", doc.reads(Z + ";field f").size(8), 1);
        doc.fault(1, "^");
        doc.fault(1, "^;" + Z);
        doc.fault(1, Z + ";^");
        doc.fault(1, Z + " ^field f");
        says("I", "LINE, one of:");
        for (String word : new String[] {"house", "damp", "wet", "fields", "fiel", "on", "he"}) {
            doc.fault(1, Z + ";^" + word + " 1");
            doc.fault(1, "^" + word + " 1");
        }
    }

    /** A WHOLE of a text, written as #: from least to most, and none beyond. */
    private void bounds(String text, int least, int most) {
        doc.reads(text.replace("#", "" + least));
        doc.reads(text.replace("#", "" + most));
        doc.fault(4, text.replace("#", "^" + (most + 1)));
        doc.fault(4, text.replace("#", "^999"));
        if (least > 0) {
            doc.fault(4, text.replace("#", "^" + (least - 1)));
        }
    }

    /** Each TOKEN from one on that is left out: the one behind it, or the end, is where the text doesn't go on. */
    private void inOrder(String ahead, String line, int from) {
        String[] tokens = line.split(" ");
        doc.reads(ahead + line);
        for (int i = from; i < tokens.length; i++) {
            StringBuilder s = new StringBuilder(ahead + tokens[0]);
            for (int k = 1; k < tokens.length; k++) {
                s.append(k == i ? "" : (k == i + 1 ? " ^" : " ") + tokens[k]);
            }
            doc.fault(1, s + (i == tokens.length - 1 ? "^" : ""));
        }
    }

    private void chaletAndWeather() {
        says("I", "chalet damp WHOLE wood WHOLE oil WHOLE gust WHOLE");
        ChaletRule x = doc.reads("chalet damp 12 wood 3 oil 2 gust 45");
        doc.due("damp", x.beam(1), 12);
        doc.due("wood", x.size(0), 3);
        doc.due("oil", x.size(1), 2);
        doc.due("gust", x.size(2), 45);
        inOrder("", "chalet damp 12 wood 3 oil 2 gust 45", 1);
        says("I", "(0 .. 100; 0 .. 9; 0 .. 3; 0 .. 100 in a hundred),");
        bounds("chalet damp # wood 0 oil 0 gust 0", 0, 100);
        bounds("chalet damp 0 wood # oil 0 gust 0", 0, 9);
        bounds("chalet damp 0 wood 0 oil # gust 0", 0, 3);
        bounds("chalet damp 0 wood 0 oil 0 gust #", 0, 100);
        says("I", "ahead of all others");
        doc.fault(6, "^field f;" + Z);
        doc.reads(Z + ";field f");
        says("I", "weather wet WHOLE fine WHOLE");
        x = doc.reads(Z + ";weather wet 12 fine 21");
        doc.due("wet", x.size(3), 12);
        doc.due("fine", x.size(4), 21);
        inOrder(Z + ";", "weather wet 12 fine 21", 1);
        says("I", "(0 .. 30; 0 .. 30;");
        bounds(Z + ";weather wet # fine 0", 0, 30);
        bounds(Z + ";weather wet 0 fine #", 0, 30);
        says("I", "once;");
        doc.fault(3, Z + ";weather wet 1 fine 1;^weather wet 1 fine 1");
        doc.fault(3, Z + ";weather wet 1 fine 1;field f; ^weather");
        says("I", "10 each, if it isn't told)");
        x = doc.reads(Z + ";weather wet 1 fine 2");
        Check.read(x, Z);
        doc.due("wet", x.size(3), 10);
        doc.due("fine", x.size(4), 10);
        Check.read(x, Village.chalet(80, 0, 1, 0));
        doc.due("10 more", x.dampIn(2), 90);
        Check.read(x, Village.chalet(20, 0, 1, 0));
        doc.due("10 less", x.dampIn(2), 10);
    }

    private static String lines(String line, int count) {
        StringBuilder s = new StringBuilder(Z);
        for (int i = 0; i < count; i++) {
            s.append(";" + line.replace("#", "n" + (char) ('a' + i)).replace("@", "" + i));
        }
        return s.toString();
    }

    private void ventsAndPlans() {
        says("I", "vent NAME WEATHER WHOLE costs WHOLE");
        ChaletRule x = doc.reads(Z + ";vent v fine 7 costs 42");
        doc.due("weather", x.vent(0, 0), 2);
        doc.due("by", x.vent(0, 1), 7);
        doc.due("coins", x.vent(0, 2), 42);
        inOrder(Z + ";", "vent v fine 7 costs 42", 2);
        doc.fault(1, Z + ";vent ^7 costs 42");
        says("I", "(WEATHER: wet, or fine;");
        doc.due("wet", doc.reads(Z + ";vent v wet 1 costs 0").vent(0, 0), 1);
        doc.due("fine", doc.reads(Z + ";vent v fine 1 costs 0").vent(0, 0), 2);
        doc.fault(1, Z + ";vent v ^still 1 costs 0");
        doc.fault(1, Z + ";plan p on 1 ^still worth 0");
        says("I", "1 .. 9;");
        bounds(Z + ";vent v wet # costs 0", 1, 9);
        says("I", "0 .. 99;");
        bounds(Z + ";vent v wet 1 costs #", 0, 99);
        says("I", "up to 4)");
        doc.due("4", doc.reads(lines("vent # wet 1 costs 0", 4)).size(5), 4);
        doc.fault(5, lines("vent # wet 1 costs 0", 4) + ";^vent v wet 1 costs 0");
        says("I", "plan NAME on WHOLE WEATHER worth WHOLE");
        x = doc.reads(Z + ";plan p on 17 fine worth 42");
        doc.due("day", x.plan(0, 0), 17);
        doc.due("weather", x.plan(0, 1), 2);
        doc.due("worth", x.plan(0, 2), 42);
        inOrder(Z + ";", "plan p on 17 fine worth 42", 2);
        doc.fault(1, Z + ";plan ^17 fine worth 42");
        says("I", "(0 .. 20;");
        bounds(Z + ";plan p on # wet worth 0", 0, 20);
        says("I", "0 .. 99;");
        bounds(Z + ";plan p on 0 wet worth #", 0, 99);
        says("I", "up to 6)");
        doc.due("6", doc.reads(lines("plan # on 0 wet worth 0", 6)).size(6), 6);
        doc.fault(5, lines("plan # on 0 wet worth 0", 6) + ";^plan p on 0 wet worth 0");
    }

    private void sawsAndFields() {
        says("I", "saw day WHOLE WHO");
        doc.due("seen", doc.reads(Z + ";saw day 4 he").size(7), 1);
        doc.due("not so", doc.reads(Z + ";saw day 4 he").judge(), 0);
        inOrder(Z + ";", "saw day 4 he", 1);
        says("I", "(0 .. 20;");
        bounds(Z + ";saw day # she", 0, 20);
        says("I", "each once;");
        doc.fault(3, Z + ";saw day 20 he;saw day 0 he;saw day ^20 she");
        doc.due("each another", doc.reads(Z + ";saw day 20 he;saw day 0 he;saw day 19 she").size(7), 3);
        says("I", "WHO: none, he, she, or both;");
        String[] who = {"none", "he", "she", "both"};
        for (int i = 0; i < 4; i++) {
            ChaletRule x = doc.reads(Village.chalet(50, 0, 3, 0) + ";saw day 0 " + who[i]);
            doc.due("both are out, seen " + who[i], x.judge(), i == 3 ? -2 : 0);
        }
        doc.fault(1, Z + ";saw day 0 ^they");
        doc.fault(1, Z + ";saw day 0 ^wet");
        says("I", "up to 5)");
        doc.due("5", doc.reads(lines("saw day @ he", 5)).size(7), 5);
        doc.fault(5, lines("saw day @ he", 5) + ";^saw day 9 he");
        says("I", "field NAME (up to 6),");
        doc.due("6", doc.reads(lines("field #", 6)).size(8), 6);
        doc.fault(5, lines("field #", 6) + ";^field f");
        inOrder(Z + ";", "field f", 1);
        doc.fault(1, Z + ";field ^7");
    }

    private void ditchesAndNames() {
        says("I", "or ditch FIELD FIELD carries WHOLE");
        doc.due("it carries 42 from f to g", doc.reads(TWO + ";ditch f g carries 42").flood(), 42);
        doc.fault(1, TWO + ";ditch f g ^42");
        doc.fault(1, TWO + ";ditch f g carries^");
        doc.fault(1, TWO + ";ditch f ^42");
        doc.fault(1, TWO + ";ditch^");
        says("I", "(unlike;");
        doc.fault(3, TWO + ";ditch g ^g carries 1");
        says("I", "each two in that order once;");
        doc.fault(3, TWO + ";ditch f g carries 1;ditch f ^g carries 2");
        doc.due("the other order", doc.reads(TWO + ";ditch f g carries 1;ditch g f carries 1").size(9), 2);
        says("I", "1 .. 99;");
        bounds(TWO + ";ditch f g carries #", 1, 99);
        says("I", "up to 9)");
        StringBuilder nine = new StringBuilder(lines("field #", 6));
        for (int i = 0; i < 9; i++) {
            nine.append(";ditch n" + (char) ('a' + i / 5) + " n" + (char) ('a' + (i / 5 + 1 + i % 5) % 6) + " carries 1");
        }
        doc.due("9", doc.reads(nine.toString()).size(9), 9);
        doc.fault(5, nine + ";^ditch nc nd carries 1");
        says("I", "NAMES are WORDS but chalet, weather, vent, plan, saw, field, ditch;");
        for (String word : new String[] {"chalet", "weather", "vent", "plan", "saw", "field", "ditch"}) {
            doc.fault(1, Z + ";vent ^" + word + " wet 1 costs 0");
            doc.fault(1, Z + ";plan ^" + word + " on 0 wet worth 0");
            doc.fault(1, Z + ";field ^" + word);
            doc.fault(1, TWO + ";ditch ^" + word + " g carries 1");
            doc.fault(1, TWO + ";ditch f ^" + word + " carries 1");
        }
        for (String word : new String[] {"damp", "wood", "oil", "gust", "wet", "fine", "costs", "on", "worth", "day", "none", "he",
            "she", "both", "carries", "chalets", "wea"}) {
            doc.due(word, doc.reads(Z + ";field " + word + ";field zz;ditch " + word + " zz carries 3").flood(), 3);
        }
        says("I", "each told once,");
        String[] tells = {"vent n wet 1 costs 0", "plan n on 0 wet worth 0", "field n"};
        for (String first : tells) {
            for (String second : tells) {
                doc.fault(3, Z + ";" + first + ";" + second.replace(" n", " ^n"));
            }
        }
        String all = lines("vent # wet 1 costs 0", 4) + ";plan pa on 0 wet worth 0;plan pb on 0 wet worth 0;plan pc on 0 wet worth 0;"
                + "plan pd on 0 wet worth 0;plan pe on 0 wet worth 0;plan pf on 0 wet worth 0;field fa;field fb;field fc;field fd;field fe;field ";
        doc.due("the last of sixteen", doc.reads(all + "ff;ditch fa ff carries 7").flood(), 7);
        for (String name : new String[] {"na", "nd", "pa", "pf", "fa", "fe"}) {
            doc.fault(3, all + "^" + name);
        }
        says("I", "ahead of its use.");
        doc.fault(2, Z + ";field f;ditch f ^g carries 1;field g");
        doc.fault(2, Z + ";field g;ditch ^f g carries 1;field f");
    }

    private void whichFault() {
        says("I", "FAULTS, the first that is met from the left,");
        doc.fault(4, "chalet damp ^101 wood A");
        doc.fault(1, "chalet damp 0 ^A wood 10");
        doc.fault(2, TWO + ";ditch ^x x carries 0");
        doc.fault(3, TWO + ";ditch f ^f carries 0");
        doc.fault(5, lines("vent # wet 1 costs 0", 4) + ";^vent na wet 10 costs A");
        doc.fault(6, "^vent saw");
        doc.fault(3, Z + ";^chalet damp 101");
        says("I", "of one place the least number:");
        doc.fault(1, "chalet damp ^1001");
        doc.fault(1, TWO + ";ditch ^abcdefghi g");
        doc.fault(1, TWO + ";ditch ^vent g");
        doc.fault(1, Z + ";saw day 11 he;saw day ^0011");
    }

    private void form() {
        says("I", "1 FORM: the first byte that begins no TOKEN,");
        for (char other : new char[] {'A', 'Z', '-', '.', ',', '_', '`', '{', 200}) {
            doc.fault(1, "^" + other + Z);
            doc.fault(1, "chalet damp ^" + other);
            doc.fault(1, Z + "  ^" + other);
            doc.fault(1, Z + ";vent v wet ^" + other + "1 costs 0");
            doc.fault(1, TWO + ";ditch f g carries ^" + other + "1");
            doc.fault(1, Z + ";saw day 0 he;saw day ^" + other + "1 he");
            doc.fault(1, Z + ";field f^" + other + "g");
            doc.fault(1, TWO + ";ditch ^" + other + "f g carries 1");
            doc.fault(1, TWO + ";ditch f ^" + other + "g carries 1");
        }
        says("I", "or TOKEN with which no CHALET goes on");
        doc.fault(1, "chalet ^wood 0");
        doc.fault(1, "chalet damp ^damp");
        doc.fault(1, "chalet damp ^;");
        doc.fault(1, "chalet ^5");
        doc.fault(1, Z + " ^0");
        doc.fault(1, Z + ";vent ^5");
        doc.fault(1, Z + ";vent ^;");
        doc.fault(1, Z + ";vent v wet ^wet");
        doc.fault(1, Z + ";vent wet ^5 costs 0");
        doc.fault(1, Z + ";plan on ^5 wet worth 0");
        doc.fault(1, Z + ";saw day 1 ^1");
        says("I", "(the end: its place).");
        doc.fault(1, "^");
        doc.fault(1, "     ^");
        doc.fault(1, "chalet^");
        doc.fault(1, "chalet damp 0 wood 0 oil 0 gust   ^");
        doc.fault(1, Z + ";  ^");
        doc.fault(1, Z + ";saw day 1^");
        doc.fault(1, Z + ";field" + " ".repeat(900 - Z.length() - 6) + "^");
    }

    private void otherFaults() {
        says("I", "2 a NAME that isn't told,");
        doc.fault(2, TWO + ";ditch ^x g carries 1");
        doc.fault(2, TWO + ";ditch f ^x carries 1");
        doc.fault(2, Z + ";ditch ^f g carries 1");
        doc.fault(2, TWO + ";ditch ^ff g carries 1");
        says("I", "or is no field; at it.");
        doc.fault(2, TWO + ";vent v wet 1 costs 0;ditch ^v f carries 1");
        doc.fault(2, TWO + ";plan p on 0 wet worth 0;ditch f ^p carries 1");
        doc.fault(2, TWO + ";ditch f ^wet carries 1");
        says("I", "3 a NAME told again; at it;");
        doc.fault(3, TWO + ";field  ^f");
        doc.fault(3, TWO + ";vent ^g A");
        says("I", "a second FIELD that is the first,");
        doc.fault(3, TWO + ";ditch f  ^f carries 1");
        says("I", "or to which there is a ditch from the first already; at it;");
        doc.fault(3, TWO + ";ditch g f carries 1;ditch f g carries 1;ditch f ^g carries 1");
        doc.due("from another one", doc.reads(TWO + ";field h;ditch f g carries 1;ditch h g carries 1").size(9), 2);
        doc.due("to another one", doc.reads(TWO + ";field h;ditch f g carries 1;ditch f h carries 1").size(9), 2);
        says("I", "a day told already (saw); at its WHOLE;");
        doc.fault(3, Z + ";saw day 0 he;saw day  ^000 she");
        doc.fault(3, Z + ";saw day 1 he;saw day 2 he;saw day ^1");
        says("I", "a second chalet,");
        doc.fault(3, Z + "; ^" + Z);
        doc.fault(3, Z + ";field f;^chalet");
        says("I", "a second weather: at that WORD.");
        doc.fault(3, Z + ";weather wet 0 fine 0; ^weather wet 0 fine 0");
        says("I", "4 a WHOLE out of bounds; at it.");
        doc.fault(4, "chalet damp   ^101 wood 0");
        doc.fault(4, Z + ";vent v wet  ^0");
        says("I", "5 MANY: a LINE more of its sort than there is room for, at its first WORD.");
        doc.fault(5, lines("vent # wet 1 costs 0", 4) + "; ^vent");
        doc.fault(5, lines("plan # on 0 wet worth 0", 6) + "; ^plan na");
        doc.fault(5, lines("saw day @ he", 5) + "; ^saw day 0");
        doc.fault(5, lines("field #", 6) + "; ^field na");
        doc.due("other sorts have room", doc.reads(lines("field #", 6) + ";vent v wet 1 costs 0").size(5), 1);
        says("I", "6 LACKS: any LINE ahead of the chalet; at its WORD.");
        for (String word : new String[] {"weather", "vent", "plan", "saw", "field", "ditch"}) {
            doc.fault(6, "  ^" + word);
        }
        doc.fault(6, "^field f");
    }

    private void newObject() {
        says("1", "No CHALET.");
        ChaletRule x = new ChaletRule();
        doc.due("trouble()", x.trouble(), 0);
        doc.due("fault()", x.fault(), 0);
        doc.due("where()", x.where(), -1);
        for (int what = 0; what <= 13; what++) {
            doc.due("size(" + what + ")", x.size(what), 0);
        }
        doc.refused("beam(0)", x, x.beam(0), 1);
        doc.is("undo()", x, x.undo(), 6);
    }

    private void feed() {
        says("2", "Twenty bytes come behind THE TAPE,");
        ChaletRule x = new ChaletRule();
        x.feed(0x6368616c, 0x65742064, 0x616d7020, 0x3720776f, 0x6f642030);
        x.feed(0x206f696c, 0x20302067, 0x75737420, 0x313b6669, 0x656c6420);
        x.feed(0x66202020, 0x20202020, 0x20202020, 0x20202020, 0x20202020);
        doc.due("chalet(60)", x.chalet(60), 0);
        doc.due("its damp", x.beam(1), 7);
        doc.due("its gust", x.size(2), 1);
        doc.due("its field", x.size(8), 1);
        says("2", "of each number the highest first:");
        int blank = 0x20202020;
        int[][] marks = {{0xff202020, 0}, {0x20ff2020, 1}, {0x2020ff20, 2}, {0x202020ff, 3}, {0x80202020, 0}};
        for (int i = 0; i < 5; i++) {
            for (int[] mark : marks) {
                int m = mark[0];
                x.feed(i == 0 ? m : blank, i == 1 ? m : blank, i == 2 ? m : blank, i == 3 ? m : blank, i == 4 ? m : blank);
                x.chalet(20);
                doc.due("place of a byte", x.where(), 4 * i + mark[1]);
            }
        }
        says("2", "how many it has;");
        for (int i = 1; i <= 45; i++) {
            doc.due("feed", x.feed(blank, blank, blank, blank, blank), 20 * i);
            doc.due("size(13)", x.size(13), 20 * i);
        }
        says("2", "NONE, and none comes, if there would be more than 900.");
        doc.due("one more", x.feed(0, 0, 0, 0, 0), -1);
        doc.due("none came", x.size(13), 900);
        doc.refused("no byte behind the last", x, x.chalet(901), 2);
        x.chalet(900);
        doc.due("blanks alone, as they were", x.where(), 900);
        doc.due("room again", x.feed(0, 0, 0, 0, 0), 20);
    }

    private void chaletCall() {
        says("3", "The first n bytes of THE TAPE");
        ChaletRule x = new ChaletRule();
        Check.put(x, (Z + "1;field f").getBytes(StandardCharsets.ISO_8859_1));
        doc.due("chalet(33)", x.chalet(33), 0);
        doc.due("no field", x.size(8), 0);
        doc.due("gust 0", x.size(2), 0);
        Check.put(x, (Z + "1;field f").getBytes(StandardCharsets.ISO_8859_1));
        x.chalet(34);
        doc.due("gust 01", x.size(2), 1);
        says("3", "(it is empty then)");
        Check.put(x, new byte[60]);
        x.chalet(7);
        doc.due("behind a FAULT", x.size(13), 0);
        Check.read(x, Z);
        doc.due("behind a CHALET", x.size(13), 0);
        doc.refused("chalet(1)", x, x.chalet(1), 2);
        says("3", "are the CHALET from now on");
        Check.read(x, Village.TEXT);
        for (int i = 0; i < 4; i++) {
            textsByTurns(x);
        }
        Check.read(x, Village.TEXT);
        Check.read(x, Village.chalet(11, 2, 3, 4) + ";vent v wet 5 costs 6");
        int[] sizes = {2, 3, 4, 10, 10, 1, 0, 0, 0, 0};
        for (int what = 0; what < sizes.length; what++) {
            doc.due("size(" + what + ")", x.size(what), sizes[what]);
        }
        doc.due("damp", x.beam(1), 11);
        doc.due("its vent", x.vent(0, 1), 5);
        says("3", "(no DAY yet, all vents shut;");
        x.day();
        x.day();
        x.open(0);
        Check.read(x, Village.TEXT);
        doc.due("no DAY", x.size(10), 0);
        doc.due("no WEATHER", x.beam(4), 0);
        doc.due("angle", x.beam(0), 9);
        doc.due("OIL as told", x.beam(3), 1);
        doc.due("shut", x.vent(0, 3), 0);
        wetAndFineAreForgotten();
        says("3", "nothing to undo, no IMAGES):");
        x.day();
        x.oil();
        x.image();
        Check.read(x, Village.TEXT);
        doc.due("size(11)", x.size(11), 0);
        doc.due("size(12)", x.size(12), 0);
        doc.is("undo()", x, x.undo(), 6);
        doc.is("back(0)", x, x.back(0), 1);
        doc.due("the first number again", x.image(), 0);
        says("3", "how many vents.");
        x.beam(77);
        for (int vents = 0; vents <= 4; vents++) {
            doc.due(vents + " vents", Check.read(x, lines("vent # wet 1 costs 0", vents)), vents);
            doc.due("not refused", x.trouble(), 0);
            x.beam(77);
        }
        chaletRefused();
    }

    /** What the DAYS of an old CHALET were keeps no plan of a new one. */
    private void wetAndFineAreForgotten() {
        String plans = ";plan p on 1 wet worth 1;plan q on 1 fine worth 1";
        for (int damp = 20; damp <= 80; damp += 60) {
            ChaletRule x = Check.with(Village.chalet(damp, 0, 1, 0));
            x.day();
            x.day();
            Check.read(x, Village.chalet(50, 0, 1, 0) + plans);
            doc.due("kept(2)", x.kept(2), 0);
            x.day();
            x.day();
            doc.due("led(0)", Check.led(x, 0), -1000);
        }
    }

    /** Nothing of a text, whole or faulty, is left over for the one behind it. */
    private void textsByTurns(ChaletRule x) {
        String rich = lines("vent # wet 1 costs 0", 4) + ";field f;field g;ditch f g carries 5;plan p on 1 wet worth 1;saw day 0 both";
        doc.due("rich", Check.read(x, rich), 4);
        doc.due("makes of rich", x.makes(), 0);
        doc.due("flood of rich", x.flood(), 5);
        doc.due("faulty", Check.read(x, rich + ";weather wet 1 fine 1;"), -1);
        doc.due("poor", Check.read(x, Z + ";field f"), 0);
        doc.due("makes of poor", x.makes(), 40);
        int[] sizes = {0, 0, 0, 10, 10, 0, 0, 0, 1, 0};
        for (int what = 0; what < sizes.length; what++) {
            doc.due("size(" + what + ") of poor", x.size(what), sizes[what]);
        }
        doc.due("faulty at once", Check.read(x, "vent"), -1);
        doc.due("again", Check.read(x, Z + ";field f"), 0);
        doc.refused("not told in this one", x, Check.read(x, Z + ";field g;ditch g f carries 1"), 4);
        doc.due("its FAULT", x.fault(), 2);
    }

    private void chaletRefused() {
        says("3", "NONE: 2 (THE TAPE stays);");
        ChaletRule x = new ChaletRule();
        Check.put(x, (Z + ";field f").getBytes(StandardCharsets.ISO_8859_1));
        for (int n : new int[] {-1, 61, 901, Integer.MIN_VALUE, Integer.MAX_VALUE}) {
            doc.refused("chalet(" + n + ")", x, x.chalet(n), 2);
            doc.due("size(13)", x.size(13), 60);
        }
        doc.due("all of it", x.chalet(60), 0);
        doc.due("its field", x.size(8), 1);
        doc.refused("an empty TAPE", x, x.chalet(1), 2);
        doc.due("the CHALET is still there", x.size(8), 1);
        says("3", "4 (the CHALET stays).");
        x = Check.with(Village.TEXT);
        x.day();
        x.image();
        x.open(1);
        String faulty = Village.chalet(1, 2, 3, 4) + ";weather wet 1 fine 1;vent a wet 9 costs 9;field f;";
        doc.refused("faulty", x, Check.read(x, faulty), 4);
        int[] sizes = {1, 1, 50, 15, 20, 2, 2, 2, 3, 3, 1, 2, 1, 0};
        for (int what = 0; what < sizes.length; what++) {
            doc.due("size(" + what + ")", x.size(what), sizes[what]);
        }
        doc.due("angle", x.beam(0), 11);
        doc.due("open", x.vent(1, 3), 1);
        doc.due("makes()", x.makes(), 30);
        ChaletRule none = new ChaletRule();
        Check.read(none, faulty);
        doc.refused("still no CHALET", none, none.beam(0), 1);
        doc.due("nothing told", none.size(3), 0);
    }

    private void faultAndWhere() {
        says("4", "The FAULT of the latest chalet() not refused by 2;");
        ChaletRule x = new ChaletRule();
        Check.read(x, "chalet damp 101");
        doc.due("fault()", x.fault(), 4);
        x.chalet(77);
        doc.due("refused by 2", x.fault(), 4);
        x.undo();
        x.beam(0);
        doc.due("other calls", x.fault(), 4);
        Check.read(x, "field f");
        doc.due("the latest", x.fault(), 6);
        says("4", "0 without one.");
        Check.read(x, Z);
        doc.due("fault()", x.fault(), 0);
        x.chalet(77);
        doc.due("refused by 2", x.fault(), 0);
        doc.due("a new object", new ChaletRule().fault(), 0);
        says("5", "Its place, if the latest call that may be refused was by 4;");
        Check.read(x, "chalet damp 101");
        doc.due("where()", x.where(), 12);
        x.feed(0, 0, 0, 0, 0);
        x.fault();
        x.trouble();
        x.size(77);
        Check.led(x, 0);
        doc.due("behind calls that tell no number", x.where(), 12);
        says("5", "NONE else.");
        x.beam(0);
        doc.due("a call that wasn't refused", x.where(), -1);
        Check.read(x, "^");
        doc.due("a FAULT", x.where(), 0);
        x.chalet(77);
        doc.due("refused by 2", x.where(), -1);
        Check.read(x, "^");
        x.beam(77);
        doc.due("refused by 1", x.where(), -1);
        Check.read(x, Z);
        doc.due("no FAULT", x.where(), -1);
        doc.due("a new object", new ChaletRule().where(), -1);
    }
}
