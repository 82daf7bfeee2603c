import java.util.function.Consumer;

/**
 * The edges that the document names under promises 29 to 37: texts, images, holders. What is refused beyond them
 * stands in RefusedTest.
 */
public final class TextEdgesTest {
    private static final int VOID = RegionHandles.VOID;
    private static final Check check = new Check();

    /** "r 20 0;b 0 4 1;b 0 4 2;b 0 4 3" and more, with an empty tape. */
    private static final Consumer<RegionHandles> SOME = x -> {
        Scenes.script(x, "r 20 0;b 0 4 1;b 0 4 2;b 0 4 3;f 2;p 0;i 1;t 1 0 5");
        x.write(101, 0, 9);
        x.image();
        x.write(101, 1, 8);
        x.quota(1, 6);
        x.hold(0, 101);
        Scenes.row(x, 1, 3, 4);
    };

    private static void due(String call, long got, long want) {
        check.due(call, got, want);
    }

    public static void main(String[] args) {
        promise29();
        promise30Bytes();
        promise30Numbers();
        promise30Places();
        promise30TooEarly();
        promise30Lines();
        promise30Slots();
        promise30Calls();
        promise30Refused();
        promise30Empty();
        promise31();
        promise32();
        promise32All();
        promise32Again();
        promise32Held();
        promise33();
        promise34();
        promise35();
        promise36();
        promise37();
        check.end("TextEdgesTest");
    }

    private static RegionHandles by(String text) {
        RegionHandles x = new RegionHandles();
        due("script of \"" + text + "\"", Scenes.script(x, text), text.split(";").length);
        return x;
    }

    /** "A byte (0 .. 255) comes to THE TAPE: how many it has. BAD, FULL (120)". */
    private static void promise29() {
        RegionHandles x = new RegionHandles();
        due("29: 0", x.feed(0), 1);
        due("29: 255", x.feed(255), 2);
        for (int n = 3; n < 120; n++) due("29: " + n, x.feed(n), n);
        due("29: the last", x.feed(128), 120);
        due("29: full", x.feed('e'), -3);
        due("29: 120 stand", x.count(6), 120);
        due("29: the first byte was kept", x.script(), -1000);
        due("29: empty then", x.count(6), 0);
        due("29: the first again", x.feed('e'), 1);
        RegionHandles y = new RegionHandles();
        Scenes.fullTape(y);
        y.feed('e');
        y.feed(300);
        due("29: a byte that was refused is not there", y.script(), -1120);
    }

    private static void form(String text, int want) {
        check.same("30: form of \"" + text + "\": all is as it was", SOME, SOME.andThen(x -> Scenes.script(x, text)));
        RegionHandles x = new RegionHandles();
        SOME.accept(x);
        due("30: form of \"" + text + "\"", Scenes.script(x, text), want);
        due("30: the tape behind \"" + text + "\"", x.count(6), 0);
        due("30: and then", Scenes.script(x, "e"), 1);
    }

    /** Each byte in each place of a text: all but those with which one goes on are faults there. */
    private static void promise30Bytes() {
        String letters = "rbfputmioe";
        for (int letter = 0; letter < 256; letter++) {
            boolean line = letters.indexOf(letter) >= 0;
            boolean digit = letter >= '0' && letter <= '9';
            early("first byte " + letter, "" + (char) letter, letter == 'e' ? 1 : line ? -1001 : -1000);
            early("behind e: " + letter, "e" + (char) letter, letter == ';' ? -1002 : -1001);
            early("behind ;: " + letter, "e;" + (char) letter, letter == 'e' ? 2 : line ? -1003 : -1002);
            early("behind i: " + letter, "i" + (char) letter, letter == ' ' ? -1002 : -1001);
            early("behind a blank: " + letter, "i " + (char) letter,
                !digit ? -1002 : letter <= '5' ? 1 : -2000);
            early("behind a digit: " + letter, "m 0" + (char) letter,
                digit || letter == ' ' ? -1004 : -1003);
            early("behind three digits: " + letter, "m 000" + (char) letter, letter == ' ' ? -1006 : -1005);
            early("behind the last of three digits: " + letter, "i 000" + (char) letter,
                letter == ';' ? -1006 : -1005);
        }
    }

    private static void early(String what, String text, int want) {
        due("30: " + what, Scenes.script(new RegionHandles(), text), want);
    }

    /** "One blank ahead of each number (no other blanks), 1 to 3 digits". */
    private static void promise30Numbers() {
        RegionHandles x = by("r 8 0;r 08 1;r 008 00;r 120 000");
        due("30: four regions", x.count(0), 4);
        form("r  8 0", -1002);
        form(" r 8 0", -1000);
        form("r 8 0 ", -1005);
        form("r 8  0", -1004);
        form("r8 0", -1001);
        form("r 8,0", -1003);
        form("e;r 8 0; e", -1008);
        form("r 0008 0", -1005);
        form("r 8 0000", -1007);
        form("r 1200 0", -1005);
        form("r -8 0", -1002);
        form("r +8 0", -1002);
        form("r 8 0;e ", -1007);
        form("b 0 1 0;b 0 1 /", -1014);
        form("b 0 1 0;b 0 1 :", -1014);
    }

    /** "the place of the first byte with which no TEXT goes on", each letter with one number too many. */
    private static void promise30Places() {
        form("e 1", -1001);
        for (String letter : new String[] {"f", "p", "u", "i", "o"}) form(letter + " 0 1", -1003);
        form("r 8 0 1", -1005);
        form("m 0 0 1", -1005);
        form("b 0 1 0 1", -1007);
        form("t 0 0 0 1", -1007);
        form("e;;e", -1002);
        form(";e", -1000);
        form("E", -1000);
        form("R 8 0", -1000);
        form("e\ne", -1001);
        form("e,e", -1001);
        String much = "e;".repeat(59);
        form(much + "ex", -1119);
        form(much + "xe", -1118);
        form(much.substring(2) + "i 0x", -1119);
    }

    /** "(the length, if it ends too early)", each letter with one number too few. */
    private static void promise30TooEarly() {
        form("", -1000);
        form("e;", -1002);
        for (String letter : new String[] {"f", "p", "u", "i", "o", "r", "m", "b", "t"}) {
            form(letter, -1001);
            form(letter + " ", -1002);
            form(letter + ";", -1001);
            form(letter + " ;", -1002);
        }
        for (String letter : new String[] {"r", "m", "b", "t"}) {
            form(letter + " 0", -1003);
            form(letter + " 0 ", -1004);
            form(letter + " 0;", -1003);
        }
        form("b 0 1", -1005);
        form("b 0 1 ", -1006);
        form("t 0 1;", -1005);
        String much = "e;".repeat(60);
        form(much, -1120);
        form(much.substring(2) + "i ", -1120);
        form(much.substring(6) + "e;b 0", -1119);
        form(much.substring(4) + "b 00", -1120);
    }

    /** "THE TAPE's TEXT is done: how many LINES"; 120 bytes. */
    private static void promise30Lines() {
        due("30: one", Scenes.script(new RegionHandles(), "e"), 1);
        RegionHandles x = by("e;".repeat(59) + "e");
        due("30: sixty", x.count(4), 60);
        RegionHandles y = new RegionHandles();
        due("30: 120 bytes", Scenes.script(y, "e;".repeat(57) + "r 20 0"), 58);
        due("30: the last line was done", y.count(0), 1);
        due("30: all the others too", y.count(4), 57);
        due("30: in their order", Scenes.script(y, "b 0 3 0;b 0 4 1;f 0;e;b 0 2 2;m 0 4;t 1 0 1"), 7);
        due("30: the third was placed first", y.of(200, 0), 0);
        due("30: the second went behind it", y.of(101, 0), 2);
    }

    /** "A SLOT stands for its LIVE BLOCK (none: refused)". */
    private static void promise30Slots() {
        RegionHandles x = new RegionHandles();
        Scenes.allSlots(x);
        due("30: the last slot", Scenes.script(x, "p 29;u 029;t 29 4 99;f 29"), 4);
        due("30: it is doomed", x.slot(29, 2), 1);
        String[] lines = {"f 29", "p 29", "u 29", "t 29 0 0", "f 30", "p 30", "u 30", "t 30 0 0", "f 100", "p 999"};
        for (String line : lines) due("30: " + line, Scenes.script(x, line), -2000);
        due("30: the next one of the slot", Scenes.script(x, "e;b 0 1 0;p 29"), 3);
        due("30: it is pinned", x.of(229, 4), 1);
        due("30: the first slot", Scenes.script(x, "p 0;p 00;p 000"), 3);
        due("30: its pins", x.of(100, 4), 3);
    }

    private static void line(String ahead, String text, boolean done) {
        RegionHandles x = new RegionHandles();
        SOME.accept(x);
        due("30: " + ahead, Scenes.script(x, ahead), ahead.split(";").length);
        due("30: " + ahead + " ahead of " + text, Scenes.script(x, text), done ? 1 : -2000);
    }

    /** "one that its call would refuse": each letter at the edges of its numbers. */
    private static void promise30Calls() {
        line("e", "r 8 0", true);
        line("e", "r 7 0", false);
        line("e", "r 120 1", true);
        line("e", "r 121 1", false);
        line("e", "r 8 2", false);
        line("r 120 0;r 92 0", "r 8 0", true);
        line("r 120 0;r 93 0", "r 8 0", false);
        line("r 8 0;r 8 0;r 8 0;r 8 0;r 8 0", "r 8 0", false);
        line("e", "b 0 8 9", true);
        line("e", "b 0 9 9", false);
        line("e", "b 0 0 9", false);
        line("e", "b 0 1 10", false);
        line("e", "b 1 1 0", false);
        line("r 120 0", "b 1 40 0", true);
        line("r 120 0", "b 1 41 0", false);
        line("e", "b 0 2 1", true);
        line("e", "b 0 3 1", false);
        line("e", "f 0", false);
        line("u 0", "f 0", true);
        line("e", "f 1", true);
        line("p 0;p 0;p 0;p 0;p 0;p 0;p 0", "p 0", true);
        line("p 0;p 0;p 0;p 0;p 0;p 0;p 0;p 0", "p 0", false);
        line("e", "u 0", true);
        line("e", "u 1", false);
        line("e", "t 0 0 0", true);
        line("e", "t 0 4 99", true);
        line("e", "t 0 5 0", false);
        line("e", "t 0 0 100", false);
        line("e", "t 0 4 100", false);
        line("e", "t 0 0 5", false);
        line("e", "t 1 0 5", true);
        line("e", "m 0 0", true);
        line("e", "m 0 240", true);
        line("e", "m 0 241", false);
        line("e", "m 1 0", false);
        line("e", "i 0", true);
        line("e", "i 1", false);
        line("e", "i 5", true);
        line("e", "i 6", false);
        line("e", "o 1", true);
        line("e", "o 0", false);
        line("i 5", "o 5", true);
        line("i 5", "o 6", false);
    }

    private static void refused(String text, int line) {
        check.same("30: \"" + text + "\" is refused: all is as it was", SOME, SOME.andThen(x -> Scenes.script(x, text)));
        RegionHandles x = new RegionHandles();
        SOME.accept(x);
        due("30: \"" + text + "\"", Scenes.script(x, text), -2000 - line);
        due("30: the tape behind \"" + text + "\"", x.count(6), 0);
    }

    /** "-2000 less its number (from 0), and all is as it was ahead of the TEXT". */
    private static void promise30Refused() {
        refused("f 0", 0);
        refused("e;f 0", 1);
        refused("e;f 0;f 0", 1);
        refused("r 8 0;b 1 8 0;f 2", 2);
        refused("f 1;o 1;e;e;f 1", 4);
        refused("f 1;o 1;e;b 0 8 5;m 0 40;p 1;b 0 9 5", 6);
        refused("u 0;f 0;f 1;o 1;e;b 0 9 1;b 0 6 1", 5);
        refused("p 1;t 1 3 3;t 0 0 5;i 0;i 2;i 1", 5);
        refused("m 0 240;f 1;o 1;e;m 0 240;f 3", 5);
        refused("e;".repeat(58) + "f 0", 58);
        refused("e;".repeat(57) + "r 7 0", 57);
        // The fault of form in a later line comes first, as no line is done then.
        form("f 0;x", -1004);
    }

    /** "THE TAPE is empty then", whatever was answered. */
    private static void promise30Empty() {
        for (String text : new String[] {"e", "x", "f 3", "e;", ""}) {
            RegionHandles x = new RegionHandles();
            Scenes.script(x, text);
            due("30: empty behind \"" + text + "\"", x.count(6), 0);
            due("30: the first byte behind \"" + text + "\"", x.feed('e'), 1);
            due("30: a text behind \"" + text + "\"", x.script(), 1);
        }
    }

    /** "AN IMAGE is kept: how many LIVE BLOCKS": none, some, all. */
    private static void promise31() {
        RegionHandles x = new RegionHandles();
        due("31: none", x.image(), 0);
        Scenes.allSlots(x);
        due("31: all", x.image(), 30);
        x.free(100);
        due("31: a doomed one is not live", x.image(), 29);
        x.advance();
        due("31: nor one that is gone", x.image(), 29);
        check.same("31: an image changes nothing", Scenes.TOWN.andThen(y -> y.image()),
            Scenes.TOWN.andThen(y -> y.image()).andThen(y -> y.image()));
    }

    /** "It is laid back: how many"; "STATE: there is none". */
    private static void promise32() {
        RegionHandles x = new RegionHandles();
        due("32: none", x.back(), -5);
        due("32: still none", x.back(), -5);
        x.image();
        Scenes.allSlots(x);
        due("32: an image of nothing", x.back(), 0);
        due("32: no regions", x.count(0), 0);
        due("32: its cells are in none", x.lies(0), 101);
        due("32: generations too", x.slot(29, 1), 0);
        due("32: all once more", x.region(40, 1), 0);
        due("32: by its own way", x.of(x.block(0, 1, 0), 0), 39);
    }

    /** "AN IMAGE keeps all of 1"; "HOLDERS, THE TAPE stay". */
    private static void promise32All() {
        Consumer<RegionHandles> kept = Scenes.TOWN.andThen(x -> {
            x.script();
            x.image();
        });
        Consumer<RegionHandles> changed = kept.andThen(x -> {
            String text = "r 50 0;r 60 1;o 1;o 2;o 4;e;u 2;f 2;f 7;f 5;e;b 2 7 0;i 0;i 5";
            due("32: the text is done", Scenes.script(x, text), 14);
            x.write(200, 0, 1);
            x.write(200, 4, 1);
            x.grow(200, 2);
            x.moves(0, 240);
            x.tag(103, 9);
            x.tag(200, 205);
            x.tag(101, 44);
            x.tag(103, 499);
            x.pin(101, 1);
            x.pin(104, -1);
            x.quota(7, 200);
            x.quota(3, 100);
            x.grow(103, 5);
            x.block(0, 3, 3);
            for (int i = 0; i < 8; i++) x.block(4, 6, i);
            for (int slot = 2; slot < 12; slot++) x.free(x.slot(slot, 0));
            due("32: the slot of a doomed one is another's", x.slot(6, 3), 7);
            x.advance();
            x.enter(4);
        });
        check.same("32: all of 1", kept, changed.andThen(x -> x.back()));
        check.same("32: all of 1, again", kept, changed.andThen(x -> x.back()).andThen(x -> x.back()));
        RegionHandles x = new RegionHandles();
        changed.accept(x);
        x.hold(0, 101);
        x.row(5, 2);
        x.put(5, 1, 6);
        x.hold(2, -1);
        Scenes.feed(x, "e;e;e");
        due("32: live ones", x.back(), 7);
        due("32: the tape stays", x.count(6), 5);
        due("32: so does its text", x.script(), 3);
        due("32: holder 0 stays", x.tells(0, 1), 6);
        due("32: holder 5 stays", x.put(5, 1, 6), 6);
        due("32: holder 2 stays", x.tells(2, 0), -11);
    }

    /** The last image counts, and it stays kept. */
    private static void promise32Again() {
        RegionHandles x = by("r 20 0;b 0 3 0");
        due("32: kept", x.image(), 1);
        x.block(0, 3, 0);
        due("32: laid back", x.back(), 1);
        x.free(100);
        x.write(100, 0, 5);
        due("32: laid back again", x.back(), 1);
        x.write(100, 0, 6);
        due("32: kept anew", x.image(), 1);
        x.write(100, 0, 7);
        due("32: laid back", x.back(), 1);
        due("32: as it was then", x.read(100, 0), 6);
        x.block(0, 3, 0);
        due("32: a refused text", Scenes.script(x, "p 0;p 9"), -2001);
        due("32: does not touch the image", x.back(), 1);
        due("32: nor what it keeps", x.of(100, 4), 0);
    }

    /** "HANDLES that are held may be STALE then, or GOOD again". */
    private static void promise32Held() {
        RegionHandles x = by("r 20 0;b 0 3 0");
        x.image();
        x.block(0, 4, 0);
        x.hold(0, 100);
        x.hold(1, 101);
        x.free(100);
        due("32: stale", x.tells(0, 1), -12);
        due("32: good", x.tells(1, 1), 4);
        x.back();
        due("32: good again", x.tells(0, 1), 3);
        due("32: stale then", x.tells(1, 1), -12);
        due("32: taken for any", x.tells(1, 0), 1);
        due("32: both are held", x.count(7), 2);
        x.block(0, 5, 0);
        due("32: the slot's next has that handle", x.tells(1, 1), 5);
    }

    /** "HOLDERS 0 .. 5 hold nothing (at first), a HANDLE .. or a ROW"; "nothing (handle -1)". */
    private static void promise33() {
        RegionHandles x = by("r 20 0;b 0 3 0");
        for (int holder = 0; holder < 6; holder++) {
            due("33: nothing, of nothing", x.hold(holder, -1), 1);
            due("33: a handle", x.hold(holder, 100), 1);
            due("33: how many", x.count(7), holder + 1);
        }
        due("33: nothing, of a handle", x.hold(5, -1), 1);
        due("33: one less", x.count(7), 5);
        x.row(5, 1);
        due("33: nothing, of a row", x.hold(5, -1), 1);
        due("33: nothing is there", x.put(5, 0, 1), VOID);
        due("33: nor a row", x.plan(5, 0), -11);
        x.free(100);
        due("33: doomed", x.hold(5, 100), -4);
        due("33: it still holds nothing", x.tells(5, 0), -11);
        due("33: those that held it hold it", x.tells(4, 0), 1);
    }

    /** "a ROW of n (0 .. 60) ints, 0 at first"; "BAD (HOLDER, n above 60); -14". */
    private static void promise34() {
        RegionHandles x = by("r 20 0;b 0 3 0");
        for (int holder = 0; holder < 6; holder += 5) {
            due("34: 60", x.row(holder, 60), 1);
            for (int i = 0; i < 60; i++) due("34: 0 at first", x.put(holder, i, i + 1), 0);
            due("34: no more", x.put(holder, 60, 1), VOID);
            due("34: 61", x.row(holder, 61), -1);
            due("34: -1", x.row(holder, -1), -14);
            due("34: as it was", x.put(holder, 59, 1), 60);
            due("34: 59", x.row(holder, 59), 1);
            due("34: 0 at first", x.put(holder, 58, 1), 0);
            due("34: no more", x.put(holder, 59, 1), VOID);
            due("34: 1", x.row(holder, 1), 1);
            due("34: 0 at first", x.put(holder, 0, 7), 0);
            due("34: no more", x.put(holder, 1, 1), VOID);
            due("34: 0", x.row(holder, 0), 1);
            due("34: none", x.put(holder, 0, 1), VOID);
            due("34: a row of none is held", x.tells(holder, 0), -12);
        }
        due("34: both hold something", x.count(7), 2);
    }

    /** "VOID: BAD (HOLDER), nothing, another sort, no such place". */
    private static void promise35() {
        RegionHandles x = by("r 20 0;b 0 3 0");
        for (int holder = 0; holder < 6; holder++) x.row(holder, 60);
        for (int holder = 0; holder < 6; holder++) {
            due("35: the first", x.put(holder, 0, 10 + holder), 0);
            due("35: the last", x.put(holder, 59, 20 + holder), 0);
            due("35: ahead of the first", x.put(holder, -1, 1), VOID);
            due("35: behind the last", x.put(holder, 60, 1), VOID);
        }
        for (int holder = 0; holder < 6; holder++) {
            due("35: the first was", x.put(holder, 0, Integer.MAX_VALUE), 10 + holder);
            due("35: the last was", x.put(holder, 59, Integer.MIN_VALUE), 20 + holder);
            due("35: greatest", x.put(holder, 0, VOID), Integer.MAX_VALUE);
            due("35: least", x.put(holder, 59, 0), Integer.MIN_VALUE);
            due("35: what VOID is", x.put(holder, 0, 0), VOID);
        }
        due("35: holder -1", x.put(-1, 0, 1), VOID);
        due("35: holder 6", x.put(6, 0, 1), VOID);
        x.hold(2, 100);
        due("35: a handle", x.put(2, 0, 1), VOID);
        x.hold(2, -1);
        due("35: nothing", x.put(2, 0, 1), VOID);
    }

    /** "0 any: its GENERATION; 1 a GOOD one: its length; 2 a PINNED one: its PINS; 3 a TAGGED one". */
    private static void promise36() {
        RegionHandles x = by("r 60 0;b 0 40 0;b 0 1 0");
        x.hold(0, 100);
        x.hold(5, 101);
        due("36: length 40", x.tells(0, 1), 40);
        due("36: length 1", x.tells(5, 1), 1);
        due("36: no pins", x.tells(0, 2), -12);
        due("36: no tag", x.tells(0, 3), -12);
        x.pin(100, 1);
        due("36: 1 pin", x.tells(0, 2), 1);
        for (int n = 0; n < 8; n++) x.pin(100, 1);
        due("36: 9 pins", x.tells(0, 2), 9);
        due("36: another's", x.tells(5, 2), -12);
        x.tag(100, 0);
        x.tag(101, 499);
        due("36: tag 0", x.tells(0, 3), 0);
        due("36: tag 499", x.tells(5, 3), 499);
        x.grow(101, 2);
        due("36: grown", x.tells(5, 1), 3);
        x.free(101);
        for (int as = 0; as < 4; as++) due("36: doomed, as " + as, x.tells(5, as), as == 0 ? 1 : -12);
        x.advance();
        for (int as = 0; as < 4; as++) due("36: gone, as " + as, x.tells(5, as), as == 0 ? 1 : -12);
        x.block(0, 2, 0);
        x.pin(201, 1);
        x.tag(201, 7);
        for (int as = 0; as < 4; as++) due("36: the next one's, as " + as, x.tells(5, as), as == 0 ? 1 : -12);
        x.hold(5, 201);
        int[] now = {2, 2, 1, 7};
        for (int as = 0; as < 4; as++) due("36: the next one, as " + as, x.tells(5, as), now[as]);
    }

    /** Each of 0 .. 7: none, and all that there can be. */
    private static void promise37() {
        RegionHandles x = new RegionHandles();
        for (int i = 0; i < 6; i++) x.region(40, 0);
        for (int i = 0; i < 6; i++) x.block(i, 40, i);
        for (int i = 0; i < 6; i++) x.hold(i, 100 + i);
        Scenes.feed(x, "e;".repeat(60));
        int[] all = {6, 6, 0, 0, 0, 240, 120, 6};
        for (int what = 0; what < 8; what++) due("37: what " + what, x.count(what), all[what]);
        for (int i = 0; i < 6; i++) x.tag(100 + i, 100 * (i % 5) + i);
        due("37: tags", x.count(3), 6);
        for (int i = 0; i < 6; i++) x.free(100 + i);
        int[] freed = {6, 0, 6, 0, 0, 240, 120, 6};
        for (int what = 0; what < 8; what++) due("37: freed, what " + what, x.count(what), freed[what]);
        x.advance();
        x.script();
        int[] gone = {6, 0, 0, 0, 1, 0, 0, 6};
        for (int what = 0; what < 8; what++) due("37: gone, what " + what, x.count(what), gone[what]);
        RegionHandles y = new RegionHandles();
        Scenes.allSlots(y);
        for (int slot = 0; slot < 30; slot++) y.tag(100 + slot, slot);
        due("37: thirty live ones", y.count(1), 30);
        due("37: thirty tags", y.count(3), 30);
        for (int slot = 0; slot < 30; slot++) y.free(100 + slot);
        due("37: no live ones", y.count(1), 0);
        due("37: thirty doomed ones", y.count(2), 30);
        due("37: no tags", y.count(3), 0);
        due("37: their cells", y.count(5), 30);
    }
}
