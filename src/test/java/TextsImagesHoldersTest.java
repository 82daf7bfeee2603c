/** Promises 29 to 37: texts, images, holders. */
public final class TextsImagesHoldersTest {
    private static final int VOID = RegionHandles.VOID;
    private static final Check check = new Check();

    private static void due(String call, long got, long want) {
        check.due(call, got, want);
    }

    public static void main(String[] args) {
        promise29();
        promise30Form();
        promise30EachLetter();
        promise30Refused();
        promise30Undone();
        promise30Long();
        promise31();
        promise32();
        promise32SlotsUsedAnew();
        promise32Holders();
        promise33();
        promise34();
        promise35();
        promise36();
        promise37();
        check.end("TextsImagesHoldersTest");
    }

    private static int run(RegionHandles x, String text) {
        for (int i = 0; i < text.length(); i++) x.feed(text.charAt(i));
        return x.script();
    }

    private static void form(String text, int want) {
        RegionHandles x = new RegionHandles();
        due("30: form of \"" + text + "\"", run(x, text), want);
        due("30: no lines are done", x.count(4), 0);
        due("30: the tape is empty then", x.count(6), 0);
    }

    private static void promise29() {
        RegionHandles x = new RegionHandles();
        due("29: -1", x.feed(-1), -1);
        due("29: 256", x.feed(256), -1);
        due("29: 0", x.feed(0), 1);
        due("29: 255", x.feed(255), 2);
        for (int n = 3; n <= 120; n++) due("29: more", x.feed('e'), n);
        due("29: full", x.feed('e'), -3);
        due("29: bad before full", x.feed(256), -1);
        due("29: still 120", x.count(6), 120);
        due("29: the bytes stand", x.script(), -1000);
        due("29: empty then", x.feed('e'), 1);
        due("29: done", x.script(), 1);
    }

    private static void promise30Form() {
        form("", -1000);
        form("x", -1000);
        form(" e", -1000);
        form("E", -1000);
        form(";", -1000);
        form("e;", -1002);
        form("e;;", -1002);
        form("e ", -1001);
        form("e1", -1001);
        form("ee", -1001);
        form("r", -1001);
        form("r ", -1002);
        form("r  8 0", -1002);
        form("r8 0", -1001);
        form("r 8", -1003);
        form("r 8;", -1003);
        form("r 8 ", -1004);
        form("r 8 0 ", -1005);
        form("r 8 0 0", -1005);
        form("r 0008 0", -1005);
        form("r -8 0", -1002);
        form("r 8 0;b 0 1", -1011);
        form("b 0 1 0 1", -1007);
        form("t 0 1;", -1005);
        form("m 0;", -1003);
        form("i 0 0", -1003);
        form("e;f 1a", -1005);
        form("e;p", -1003);
        form("e;u 12", -2001);
        form("e;o 1234", -1007);
        form("e" + (char) 0, -1001);
        form("" + (char) 255, -1000);
    }

    private static void promise30EachLetter() {
        RegionHandles x = new RegionHandles();
        due("30: r", run(x, "r 020 1"), 1);
        due("30: b", run(x, "b 0 4 3;b 00 002 003"), 2);
        due("30: where", x.of(101, 0), 14);
        due("30: owner", x.of(100, 3), 3);
        due("30: p", run(x, "p 0;p 0"), 2);
        due("30: pins", x.of(100, 4), 2);
        due("30: u", run(x, "u 0"), 1);
        due("30: pins", x.of(100, 4), 1);
        due("30: t", run(x, "t 1 4 99;t 0 0 5;t 1 2 3"), 3);
        due("30: tag", x.tagged(0), 5);
        due("30: tag", x.tagged(1), 203);
        due("30: i", run(x, "i 5;e;i 0"), 3);
        due("30: in", x.epochs(2), 33);
        due("30: o", run(x, "o 5"), 1);
        due("30: since", x.leave(0), 1);
        due("30: u, f", run(x, "u 0;f 0"), 2);
        due("30: doomed by", x.slot(0, 3), 1);
        due("30: e", run(x, "e"), 1);
        due("30: gone", x.count(2), 0);
        due("30: m", run(x, "m 0 1"), 1);
        due("30: within the budget", x.of(101, 0), 14);
        due("30: m", run(x, "m 0 240"), 1);
        due("30: moved", x.of(101, 0), 18);
    }

    private static void refused(String text, int line) {
        RegionHandles x = new RegionHandles();
        run(x, "r 20 0;b 0 4 1;b 0 4 2;b 0 4 3;f 2;p 0;i 1");
        due("30: refused in \"" + text + "\"", run(x, text), -2000 - line);
    }

    private static void promise30Refused() {
        refused("r 7 0", 0);
        refused("e;r 8 2", 1);
        refused("r 120 0;r 101 0", 1);
        refused("b 1 1 1", 0);
        refused("b 0 0 1", 0);
        refused("b 0 41 1", 0);
        refused("b 0 1 10", 0);
        refused("b 0 9 1", 0);
        refused("f 0", 0);
        refused("f 2", 0);
        refused("f 3", 0);
        refused("f 30", 0);
        refused("f 101", 0);
        refused("f 1;f 1", 1);
        refused("p 2", 0);
        refused("p 999", 0);
        refused("u 1", 0);
        refused("p 1;u 1;u 1", 2);
        refused("p 1;p 1;p 1;p 1;p 1;p 1;p 1;p 1;p 1;p 1", 9);
        refused("t 0 5 0", 0);
        refused("t 0 0 100", 0);
        refused("t 0 4 100", 0);
        refused("t 2 0 0", 0);
        refused("t 0 1 1;t 1 1 1", 1);
        refused("m 1 0", 0);
        refused("m 0 241", 0);
        refused("i 6", 0);
        refused("i 1", 0);
        refused("o 6", 0);
        refused("o 0", 0);
        refused("e;e;e;o 0", 3);
    }

    private static void promise30Undone() {
        RegionHandles x = new RegionHandles();
        run(x, "r 20 0;b 0 4 1;b 0 4 2;b 0 4 3;t 1 0 1;t 2 0 2");
        x.write(101, 0, 5);
        x.write(102, 0, 6);
        x.image();
        x.hold(0, 101);
        due("30: refused", run(x, "t 1 0 3;f 0;e;m 0 40;b 0 3 1;r 8 1;i 3;p 1;p 2;e;x"), -1049);
        due("30: refused", run(x, "t 1 0 3;f 0;e;m 0 40;b 0 3 1;r 8 1;i 3;p 1;p 2;e;f 1"), -2010);
        due("30: tape", x.count(6), 0);
        due("30: regions", x.count(0), 1);
        due("30: live", x.count(1), 3);
        due("30: doomed", x.count(2), 0);
        due("30: tags", x.tagged(0), 1);
        due("30: tags", x.tagged(1), 2);
        due("30: epoch", x.count(4), 0);
        due("30: readers", x.epochs(2), 0);
        due("30: handle", x.slot(0, 0), 100);
        due("30: generation", x.slot(0, 1), 1);
        due("30: place", x.of(101, 0), 4);
        due("30: pins", x.of(101, 4), 0);
        due("30: content", x.read(101, 0), 5);
        due("30: content", x.read(102, 0), 6);
        due("30: lies", x.lies(0), 0);
        due("30: in none", x.lies(20), 101);
        due("30: used", x.owner(1, 0), 4);
        due("30: holders", x.tells(0, 1), 4);
        due("30: the image", x.back(), 3);
    }

    private static void promise30Long() {
        RegionHandles x = new RegionHandles();
        for (int i = 0; i < 60; i++) {
            x.feed('e');
            if (i < 59) x.feed(';');
        }
        due("30: 60 lines", x.script(), 60);
        due("30: epoch", x.count(4), 60);
        for (int i = 0; i < 60; i++) {
            x.feed('e');
            x.feed(';');
        }
        due("30: ends too early at 120", x.script(), -1120);
        due("30: none done", x.count(4), 60);
    }

    private static void promise31() {
        RegionHandles x = new RegionHandles();
        due("31: none", x.image(), 0);
        run(x, "r 20 0;b 0 4 1;b 0 4 2;b 0 4 3;f 1");
        due("31: live ones", x.image(), 2);
        x.free(100);
        due("31: anew", x.image(), 1);
        due("31: nothing changes", x.count(1), 1);
        x.free(102);
        due("31: the last one counts", x.back(), 1);
    }

    private static void promise32() {
        RegionHandles x = new RegionHandles();
        due("32: none", x.back(), -5);
        run(x, "r 20 1;b 0 4 1;b 0 4 2;t 0 1 1;t 1 2 2;p 1;i 2;e;b 0 2 2;f 2");
        x.write(100, 3, 33);
        x.quota(1, 9);
        x.image();
        run(x, "o 2;e;u 1;f 1;t 0 3 3;e;m 0 99;r 9 0;i 0;b 1 3 9");
        x.write(100, 3, 34);
        x.quota(1, 10);
        x.feed('e');
        due("32: how many", x.back(), 2);
        due("32: regions", x.count(0), 1);
        due("32: doomed", x.count(2), 1);
        due("32: by", x.slot(2, 3), 1);
        due("32: epoch", x.count(4), 1);
        due("32: readers", x.epochs(2), 4);
        due("32: since", x.epochs(0), 0);
        due("32: tags", x.tagged(0), 101);
        due("32: tags", x.tagged(1), 202);
        due("32: pins", x.of(101, 4), 1);
        due("32: content", x.read(100, 3), 33);
        due("32: quota", x.owner(1, 1), 9);
        due("32: way", x.would(0, 2, 0), 8);
        due("32: cells", x.lies(10), 2);
        due("32: the tape stays", x.count(6), 1);
        x.script();
        x.free(100);
        due("32: again", x.back(), 2);
        due("32: epoch again", x.count(4), 1);
        due("32: live again", x.read(100, 3), 33);
    }

    private static void promise32SlotsUsedAnew() {
        RegionHandles x = new RegionHandles();
        run(x, "r 20 0;b 0 4 1;b 0 3 2;f 1");
        x.image();
        run(x, "e;e;f 0;e;b 0 2 3;b 0 5 4;f 1");
        due("32: anew", x.of(200, 3), 3);
        due("32: anew doomed by", x.slot(1, 3), 3);
        x.back();
        due("32: owner", x.of(100, 3), 1);
        due("32: length", x.of(100, 1), 4);
        due("32: doomed by", x.slot(1, 3), 0);
        due("32: used", x.owner(2, 0), 3);
        due("32: used by none", x.owner(4, 0), 0);
    }

    private static void promise32Holders() {
        RegionHandles x = new RegionHandles();
        run(x, "r 20 0;b 0 4 1");
        x.hold(0, 100);
        x.image();
        x.free(100);
        x.advance();
        x.block(0, 3, 1);
        x.hold(1, 200);
        x.row(2, 1);
        due("32: stale", x.tells(0, 1), -12);
        x.back();
        due("32: good again", x.tells(0, 1), 4);
        due("32: stale now", x.tells(1, 1), -12);
        due("32: held all the same", x.tells(1, 0), 2);
        due("32: holders stay", x.count(7), 3);
        x.free(100);
        x.advance();
        due("32: the generation was laid back", x.block(0, 2, 1), 200);
        due("32: which the holder has", x.tells(1, 1), 2);
    }

    private static void promise33() {
        RegionHandles x = new RegionHandles();
        run(x, "r 20 0;b 0 4 1;b 0 4 1");
        due("33: holder -1", x.hold(-1, 100), -1);
        due("33: holder 6", x.hold(6, 100), -1);
        due("33: bad before stale", x.hold(6, 999), -1);
        due("33: stale", x.hold(0, 102), -4);
        due("33: -2", x.hold(0, -2), -4);
        due("33: nothing held", x.count(7), 0);
        due("33: held", x.hold(0, 100), 1);
        due("33: by the last too", x.hold(5, 100), 1);
        due("33: how many", x.count(7), 2);
        due("33: stale, as it was", x.hold(0, 102), -4);
        due("33: still held", x.tells(0, 0), 1);
        due("33: nothing", x.hold(0, -1), 1);
        due("33: nothing held", x.tells(0, 0), -11);
        due("33: nothing again", x.hold(0, -1), 1);
        x.row(0, 3);
        due("33: instead of a row", x.hold(0, 101), 1);
        due("33: no row", x.put(0, 0, 1), VOID);
        x.free(100);
        due("33: doomed", x.hold(1, 100), -4);
    }

    private static void promise34() {
        RegionHandles x = new RegionHandles();
        run(x, "r 20 0;b 0 4 1");
        due("34: holder -1", x.row(-1, 5), -1);
        due("34: holder 6", x.row(6, 5), -1);
        due("34: holder before size", x.row(6, -1), -1);
        due("34: 61", x.row(0, 61), -1);
        due("34: -1", x.row(0, -1), -14);
        due("34: nothing held", x.count(7), 0);
        due("34: 60", x.row(0, 60), 1);
        due("34: the last item", x.put(0, 59, 8), 0);
        due("34: new", x.row(0, 60), 1);
        due("34: 0 at first", x.put(0, 59, 0), 0);
        x.put(0, 1, 4);
        due("34: none", x.row(0, 0), 1);
        due("34: no items", x.put(0, 0, 1), VOID);
        due("34: a holder with none holds", x.count(7), 1);
        x.row(0, 2);
        due("34: 0 at first", x.put(0, 1, 1), 0);
        x.hold(1, 100);
        due("34: instead of a handle", x.row(1, 2), 1);
        due("34: a row", x.tells(1, 0), -12);
    }

    private static void promise35() {
        RegionHandles x = new RegionHandles();
        run(x, "r 20 0;b 0 4 1");
        x.row(0, 3);
        x.row(1, 3);
        due("35: was 0", x.put(0, 2, 5), 0);
        due("35: was 5", x.put(0, 2, Integer.MIN_VALUE), 5);
        due("35: any int", x.put(0, 2, 6), Integer.MIN_VALUE);
        due("35: of another", x.put(1, 2, 6), 0);
        due("35: place 3", x.put(0, 3, 6), VOID);
        due("35: place -1", x.put(1, -1, 6), VOID);
        due("35: nothing", x.put(2, 0, 6), VOID);
        due("35: holder -1", x.put(-1, 0, 6), VOID);
        due("35: holder 6", x.put(6, 0, 6), VOID);
        x.hold(1, 100);
        due("35: a handle", x.put(1, 0, 6), VOID);
    }

    private static void promise36() {
        RegionHandles x = new RegionHandles();
        run(x, "r 20 0;b 0 4 1;f 0;e;b 0 5 1");
        x.hold(0, 200);
        x.row(1, 2);
        due("36: holder -1", x.tells(-1, 0), -1);
        due("36: holder 6", x.tells(6, 0), -1);
        due("36: as -1", x.tells(0, -1), -1);
        due("36: as 4", x.tells(0, 4), -1);
        due("36: bad before nothing", x.tells(2, 4), -1);
        due("36: nothing", x.tells(2, 0), -11);
        due("36: a row", x.tells(1, 0), -12);
        due("36: any", x.tells(0, 0), 2);
        due("36: good", x.tells(0, 1), 5);
        due("36: not pinned", x.tells(0, 2), -12);
        due("36: not tagged", x.tells(0, 3), -12);
        x.tag(200, 0);
        due("36: tag 0", x.tells(0, 3), 0);
        x.tag(200, 321);
        due("36: tagged", x.tells(0, 3), 321);
        x.pin(200, 1);
        due("36: one pin", x.tells(0, 2), 1);
        x.pin(200, 1);
        due("36: pinned", x.tells(0, 2), 2);
        run(x, "u 0;u 0;f 0");
        due("36: stale, any", x.tells(0, 0), 2);
        for (int as = 1; as < 4; as++) due("36: stale", x.tells(0, as), -12);
        run(x, "e;b 0 2 2;p 0;t 0 1 1");
        due("36: another generation", x.tells(0, 0), 2);
        for (int as = 1; as < 4; as++) due("36: another's", x.tells(0, as), -12);
    }

    private static void promise37() {
        RegionHandles x = new RegionHandles();
        run(x, "r 20 0;r 8 1;b 0 4 1;b 0 5 1;b 1 6 1;b 1 1 1;t 1 1 1;t 2 2 2;f 0;e;f 2;e;e;b 0 3 2;f 0");
        x.free(101);
        x.feed('e');
        x.feed(';');
        x.hold(0, 103);
        x.row(4, 0);
        x.row(5, 1);
        int[] want = {2, 1, 2, 0, 3, 9, 2, 3};
        for (int what = 0; what < 8; what++) due("37: " + what, x.count(what), want[what]);
        x.tag(103, 77);
        due("37: tags", x.count(3), 1);
        x.hold(0, -1);
        due("37: holders", x.count(7), 2);
        due("37: -1", x.count(-1), -1);
        due("37: 8", x.count(8), -1);
    }
}
