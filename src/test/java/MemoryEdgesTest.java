/**
 * The edges that the document names under 1 of its terms and under promises 1 to 13: the last number that is taken,
 * nothing there, all taken. What is refused beyond them stands in RefusedTest.
 */
public final class MemoryEdgesTest {
    private static final int VOID = RegionHandles.VOID;
    private static final Check check = new Check();

    private static void due(String call, long got, long want) {
        check.due(call, got, want);
    }

    public static void main(String[] args) {
        promise1AtFirst();
        promise1EachItsOwn();
        promise1CallsInAll();
        promise2Lengths();
        promise2LeastCell();
        promise2All();
        promise3Lengths();
        promise3Owners();
        promise3Slots();
        promise3Generations();
        promise3FreeRows();
        promise3CellsBecome0();
        promise4();
        promise4Stale();
        promise5();
        promise6Lengths();
        promise6AboveIt();
        promise6Anew();
        promise6WithoutASlot();
        promise6Quota();
        promise6Stays();
        promise6NewCells();
        promise7Budgets();
        promise7All();
        promise7Ends();
        promise7Ways();
        promise7Neighbours();
        promises8And9();
        promise10();
        promise11();
        promise12();
        promise13();
        check.end("MemoryEdgesTest");
    }

    private static RegionHandles by(String text) {
        RegionHandles x = new RegionHandles();
        due("script of \"" + text + "\"", Scenes.script(x, text), text.split(";").length);
        return x;
    }

    /** "0 at first", "240 at first", "OUT (at first)", "nothing (at first)", "No REGIONS; EPOCH 0". */
    private static void promise1AtFirst() {
        RegionHandles x = new RegionHandles();
        for (int what = 0; what < 8; what++) due("1: count " + what, x.count(what), 0);
        for (int region = 0; region < 6; region++) due("1: no region " + region, x.would(region, 1, 1), -1);
        for (int owner = 0; owner < 10; owner++) due("1: quota " + owner, x.owner(owner, 1), 240);
        for (int slot = 0; slot < 30; slot++) {
            due("1: no block " + slot, x.slot(slot, 0), -2);
            due("1: generation " + slot, x.slot(slot, 1), 0);
            due("1: not doomed " + slot, x.slot(slot, 2), 0);
            due("1: by no epoch " + slot, x.slot(slot, 3), -2);
        }
        for (int reader = 0; reader < 6; reader++) due("1: out " + reader, x.leave(reader), -5);
        for (int holder = 0; holder < 6; holder++) {
            for (int as = 0; as < 4; as++) due("1: holder " + holder, x.tells(holder, as), -11);
        }
        due("1: no tag", x.tagged(0), -2);
        due("1: none has tag 0", x.find(0), -2);
        due("1: none has tag 499", x.find(499), -2);
        due("1: none leaked", x.leaked(-1), 0);
        due("1: no image", x.back(), -5);
    }

    /** "All memory is the class's own": what one object does, another does not see. */
    private static void promise1EachItsOwn() {
        RegionHandles y = new RegionHandles();
        RegionHandles x = new RegionHandles();
        Scenes.town(x);
        due("1: another's regions", y.count(0), 0);
        due("1: another's cells", y.lies(0), 101);
        due("1: another's slots", y.slot(0, 1), 0);
        due("1: another's quota", y.owner(7, 1), 240);
        due("1: another's epoch", y.advance(), 0);
        due("1: another's readers", y.epochs(2), 0);
        due("1: another's tape", y.feed('e'), 1);
        due("1: another's image", y.back(), -5);
        due("1: another's holder", y.tells(0, 0), -11);
        check.same("1: made behind one that was used", Scenes.TOWN, Scenes.TOWN);
    }

    /** "An object is used for at most 512 calls": the 512th is answered as the first. */
    private static void promise1CallsInAll() {
        RegionHandles x = new RegionHandles();
        x.region(8, 0);
        for (int i = 0; i < 170; i++) {
            due("1: block " + i, x.block(0, 8, 0), 100 * (i + 1));
            due("1: free " + i, x.free(100 * (i + 1)), i);
            due("1: advance " + i, x.advance(), 1);
        }
        due("1: the 512th call", x.block(0, 8, 0), 17100);
    }

    /** "rows of CELLS (8 .. 120)", WAY 0, WAY 1. */
    private static void promise2Lengths() {
        for (int way = 0; way < 2; way++) {
            RegionHandles x = new RegionHandles();
            due("2: 8", x.region(8, way), 0);
            due("2: 9", x.region(9, way), 1);
            due("2: 119", x.region(119, way), 2);
            RegionHandles y = new RegionHandles();
            due("2: 120", y.region(120, way), 0);
            due("2: 120 cells", y.would(0, 1, 1), 120);
            due("2: by its way", y.would(0, 1, 0), way == 0 ? 0 : 119);
        }
    }

    /** "each at the least CELL from which so many are in no REGION yet". */
    private static void promise2LeastCell() {
        RegionHandles x = new RegionHandles();
        int[] lengths = {8, 120, 9, 50, 10, 43};
        int low = 0;
        for (int i = 0; i < 6; i++) {
            due("2: region " + i, x.region(lengths[i], 0), i);
            due("2: where " + i + " begins", x.would(i, 1, 0), low);
            low += lengths[i];
            due("2: where " + i + " ends", x.lies(low - 1), 100);
            due("2: behind " + i, x.lies(low), low == 240 ? -1 : 101);
        }
    }

    /** "FULL: 6, or no room in MEMORY". */
    private static void promise2All() {
        RegionHandles x = new RegionHandles();
        due("2: half", x.region(120, 0), 0);
        due("2: all but 8", x.region(112, 0), 1);
        due("2: 9 do not go", x.region(9, 0), -3);
        due("2: 8 go", x.region(8, 1), 2);
        due("2: the last cell", x.would(2, 1, 0), 239);
        due("2: none is left", x.region(8, 0), -3);
        RegionHandles y = new RegionHandles();
        for (int i = 0; i < 5; i++) y.region(40, 0);
        due("2: the sixth", y.region(40, 0), 5);
        due("2: a block in it", y.of(y.block(5, 40, 0), 0), 200);
    }

    /** "a row of 1 .. 40 CELLS". */
    private static void promise3Lengths() {
        RegionHandles x = by("r 41 0");
        due("3: 1", x.block(0, 1, 0), 100);
        due("3: 1 long", x.of(100, 1), 1);
        due("3: 40", x.block(0, 40, 0), 101);
        due("3: 40 long", x.of(101, 1), 40);
        due("3: its last cell", x.read(101, 39), 0);
        due("3: behind it", x.read(101, 40), VOID);
    }

    /** "OWNERS 0 .. 9 have a QUOTA (0 .. 240; 240 at first)"; "a BLOCK by which that would be above his QUOTA can't be". */
    private static void promise3Owners() {
        RegionHandles x = by("r 40 0");
        due("3: owner 0", x.of(x.block(0, 1, 0), 3), 0);
        due("3: owner 9", x.of(x.block(0, 1, 9), 3), 9);
        x.quota(9, 5);
        due("3: one above", x.block(0, 5, 9), -6);
        due("3: up to it", x.block(0, 4, 9), 102);
        due("3: nothing more", x.block(0, 1, 9), -6);
        due("3: another owner's", x.block(0, 1, 8), 103);
        x.free(102);
        due("3: a doomed one is used", x.block(0, 1, 9), -6);
        x.advance();
        due("3: not when it is gone", x.block(0, 4, 9), 202);
        RegionHandles y = new RegionHandles();
        y.region(120, 0);
        y.region(120, 0);
        for (int i = 0; i < 5; i++) y.block(i / 3, 40, 4);
        due("3: the 240th cell of 240", y.block(1, 40, 4), 105);
        due("3: used", y.owner(4, 0), 240);
        due("3: the 241st", y.block(1, 1, 4), -6);
    }

    /** "SLOTS 0 .. 29: a new BLOCK gets the least that no LIVE or DOOMED BLOCK has". */
    private static void promise3Slots() {
        RegionHandles x = new RegionHandles();
        x.region(120, 0);
        for (int slot = 0; slot < 29; slot++) x.block(0, 1, 0);
        due("3: the last slot", x.block(0, 1, 0), 129);
        due("3: it is good", x.of(129, 0), 29);
        due("3: no slot", x.block(0, 1, 0), -3);
        x.free(129);
        x.free(100);
        due("3: doomed ones have theirs", x.block(0, 1, 0), -3);
        due("3: both are gone", x.advance(), 2);
        due("3: the least", x.block(0, 1, 0), 200);
        due("3: then the last", x.block(0, 1, 0), 229);
        due("3: no slot again", x.block(0, 1, 0), -3);
    }

    /** "its GENERATION is 1 more then (0 at first)"; "100 times the GENERATION, and the SLOT". */
    private static void promise3Generations() {
        RegionHandles x = by("r 8 0;b 0 2 0");
        for (int g = 1; g <= 101; g++) {
            due("3: generation " + g, x.block(0, 1, 0), 100 * g + 1);
            x.free(100 * g + 1);
            x.advance();
        }
        due("3: the slot's", x.slot(1, 1), 101);
        due("3: another's", x.slot(0, 1), 1);
        due("3: one that was not used", x.slot(2, 1), 0);
        x.block(0, 1, 0);
        due("3: the one ahead", x.of(10101, 0), -4);
        due("3: good", x.of(10201, 0), 2);
        due("3: the one behind", x.of(10301, 0), -4);
    }

    /** "the first free row that is long enough, from below at its low end, or from above at its high end". */
    private static void promise3FreeRows() {
        // Rows of 2, 3 and 4 free cells between blocks of 1, from below; region 1 goes on where region 0 ends.
        String text = "r 12 0;r 12 0;b 0 2 0;b 0 1 0;b 0 3 0;b 0 1 0;b 0 4 0;b 0 1 0;f 0;f 2;f 4;e";
        int[] below = {0, 0, 3, 7};
        for (int length = 1; length < 5; length++) {
            RegionHandles x = by(text);
            due("3: from below, " + length, x.of(x.block(0, length, 0), 0), below[length - 1]);
        }
        due("3: no row of 5, nor across the end", by(text).block(0, 5, 0), -3);
        RegionHandles y = by(text);
        y.free(105);
        y.advance();
        due("3: with the end of the region", y.of(y.block(0, 5, 0), 0), 7);
        due("3: not across the end of the region", y.block(0, 6, 0), -3);
        // The same from above, where region 1 is ahead: rows of 2 (at 22), 3 (at 18) and 4 (at 13).
        String mirrored = text.replace("r 12 0;r 12 0", "r 12 0;r 12 1").replace("b 0", "b 1");
        int[] above = {23, 22, 18, 13};
        for (int length = 1; length < 5; length++) {
            RegionHandles x = by(mirrored);
            due("3: from above, " + length, x.of(x.block(1, length, 0), 0), above[length - 1]);
        }
        due("3: from above, no row of 5", by(mirrored).block(1, 5, 0), -3);
    }

    /** "its CELLS become 0", also where another's content stayed. */
    private static void promise3CellsBecome0() {
        for (int way = 0; way < 2; way++) {
            RegionHandles x = by("r 8 " + way + ";b 0 8 0");
            for (int i = 0; i < 8; i++) x.write(100, i, i - 100);
            x.free(100);
            x.advance();
            x.block(0, 5, 0);
            x.block(0, 3, 0);
            for (int i = 0; i < 5; i++) due("3: becomes 0", x.read(200, i), 0);
            for (int i = 0; i < 3; i++) due("3: becomes 0", x.read(101, i), 0);
        }
    }

    /** "A BLOCK without PINS is FREED: it is DOOMED, by EPOCH as it is then; its TAG goes". */
    private static void promise4() {
        RegionHandles x = by("r 20 0;b 0 1 0;b 0 2 1;b 0 3 2;t 0 0 1;t 1 0 2;t 2 0 3;p 1");
        due("4: 1 pin", x.free(101), -5);
        x.pin(101, -1);
        due("4: no pin", x.free(101), 0);
        due("4: its tag goes", x.find(2), -2);
        due("4: the others stand as they stood", x.tagged(0), 1);
        due("4: the others stand as they stood", x.tagged(1), 3);
        due("4: no third", x.tagged(2), -2);
        due("4: its cells are not free", x.would(0, 1, 1), 14);
        due("4: its cells are used", x.owner(1, 0), 2);
        due("4: its tag can be given", x.tag(100, 2), 2);
        x.enter(3);
        x.advance();
        due("4: by the epoch as it is then", x.free(102), 1);
        due("4: the first by the one before", x.slot(1, 3), 0);
        due("4: the second by that", x.slot(2, 3), 1);
        due("4: twice", x.free(102), -4);
        due("4: the last one", x.free(100), 1);
        due("4: no live ones", x.count(1), 0);
        due("4: all are doomed", x.count(2), 3);
        due("4: no tags", x.count(3), 0);
    }

    /** "HANDLES of it are STALE": for each call that asks for a handle. */
    private static void promise4Stale() {
        RegionHandles x = by("r 20 0;b 0 3 0;b 0 3 1;f 0");
        x.row(0, 3);
        due("4: free", x.free(100), -4);
        due("4: pin", x.pin(100, 1), -4);
        due("4: grow", x.grow(100, 1), -4);
        due("4: write", x.write(100, 0, 1), VOID);
        due("4: read", x.read(100, 0), VOID);
        due("4: of", x.of(100, 0), -4);
        due("4: tag", x.tag(100, 0), -4);
        due("4: path from", x.path(100, 101), -4);
        due("4: path to", x.path(101, 100), -4);
        due("4: told", x.told(0, 100), -4);
        due("4: hold", x.hold(0, 100), -4);
        due("4: slot", x.slot(0, 0), -2);
        due("4: in a text", Scenes.script(x, "p 0"), -2000);
    }

    /** "by n 1 it has 9, by n -1 it has none". */
    private static void promise5() {
        RegionHandles x = by("r 20 0;b 0 3 0;b 0 3 0");
        due("5: none", x.pin(100, -1), -5);
        for (int n = 1; n < 9; n++) x.pin(100, 1);
        due("5: the ninth", x.pin(100, 1), 9);
        due("5: a tenth", x.pin(100, 1), -5);
        due("5: still 9", x.of(100, 4), 9);
        due("5: another's", x.of(101, 4), 0);
        for (int n = 8; n > 0; n--) x.pin(100, -1);
        due("5: the last", x.pin(100, -1), 0);
        due("5: none again", x.pin(100, -1), -5);
        due("5: it can be freed", x.free(100), 0);
    }

    /** "by n CELLS more, 40 in all at most"; n 1 .. 39. */
    private static void promise6Lengths() {
        RegionHandles x = by("r 120 0;b 0 1 0;b 0 2 0");
        due("6: 1 to 41 by 40", x.grow(100, 40), -1);
        due("6: 2 to 41 by 39", x.grow(101, 39), -3);
        due("6: 2 to 40, there", x.grow(101, 38), 40);
        due("6: there", x.of(101, 0), 1);
        due("6: 1 to 40 by 39, anew", x.grow(100, 39), 40);
        due("6: anew", x.of(100, 0), 41);
        due("6: 40 to 41", x.grow(100, 1), -3);
        due("6: a full one in a region with room", x.would(0, 39, 0), 81);
        RegionHandles y = by("r 120 0;b 0 1 0");
        due("6: 1 to 40 by 39, there", y.grow(100, 39), 40);
        due("6: there", y.of(100, 0), 0);
    }

    /** "if the n CELLS next above it are free in its REGION (by either WAY): there". */
    private static void promise6AboveIt() {
        for (int n = 1; n < 5; n++) {
            // 100 at 0, three free cells at 2, 102 at 5.
            RegionHandles x = by("r 30 0;b 0 2 0;b 0 3 0;b 0 2 0;f 1;e");
            due("6: by " + n, x.grow(100, n), 2 + n);
            due("6: where by " + n, x.of(100, 0), n < 4 ? 0 : 7);
        }
        for (int n = 1; n < 5; n++) {
            // Way 1: 100 at 26, three free cells at 28, 102's place is below.
            RegionHandles x = by("r 31 1;b 0 3 0;b 0 2 0;b 0 2 0;f 0;e");
            due("6: from above by " + n, x.grow(101, n), 2 + n);
            due("6: from above, where by " + n, x.of(101, 0), n < 4 ? 26 : 24 - 2 - n);
        }
        RegionHandles y = by("r 10 0;r 10 0;b 0 4 0;b 0 4 0");
        due("6: up to the region's end", y.grow(101, 2), 6);
        due("6: where", y.of(101, 0), 4);
        due("6: the next region's cells are not its own", y.grow(101, 1), -3);
        RegionHandles z = by("r 20 0;b 0 2 0;b 0 3 0;f 1");
        due("6: doomed cells are not free", z.grow(100, 1), 3);
        due("6: so it went", z.of(100, 0), 5);
        RegionHandles last = new RegionHandles();
        last.region(120, 0);
        last.region(120, 1);
        last.block(1, 2, 0);
        due("6: at the memory's end", last.grow(100, 1), 3);
        due("6: it went", last.of(100, 0), 235);
    }

    /** "else it is placed anew (as a new BLOCK; its old CELLS count as taken then, and are free behind that)". */
    private static void promise6Anew() {
        // 101 at 5; free are 0 .. 4 and 9 .. 13, behind 102 at 7.
        String text = "r 14 0;b 0 5 0;b 0 2 0;b 0 2 0;f 0;e";
        RegionHandles x = by(text);
        x.write(101, 0, 8);
        x.write(101, 1, 9);
        due("6: the free row is just long enough", x.grow(101, 3), 5);
        due("6: first from below", x.of(101, 0), 0);
        due("6: content", x.read(101, 0), 8);
        due("6: content", x.read(101, 1), 9);
        due("6: new", x.read(101, 2), 0);
        due("6: its old cells are free", x.lies(5), 100);
        due("6: its old cells are free", x.lies(6), 100);
        due("6: longer than a free row, its old cells count as taken", by(text).grow(101, 4), -3);
        RegionHandles y = by(text.replace("r 14 0", "r 14 1"));
        // Mirrored: 101 at 7, 102 at 5, free are 0 .. 4 and 9 .. 13.
        due("6: there, by way 1", y.grow(101, 5), 7);
        due("6: where", y.of(101, 0), 7);
        due("6: below it alone is room", y.grow(102, 3), 5);
        due("6: from above", y.of(102, 0), 0);
        RegionHandles z = by("r 10 0;b 0 4 0;b 0 1 0;f 0;e;b 0 3 0");
        // 200 at 0, one free cell at 3, 101 at 4, free from 5.
        due("6: its own place would do, if its cells were free", z.grow(200, 2), 5);
        due("6: but they count as taken", z.of(200, 0), 5);
        RegionHandles full = by("r 10 0;b 0 5 0;b 0 5 0");
        due("6: no free row at all", full.grow(100, 1), -3);
    }

    /** "no free row" alone is FULL: a block that grows has its slot. */
    private static void promise6WithoutASlot() {
        RegionHandles x = new RegionHandles();
        Scenes.allSlots(x);
        due("6: no slot is free", x.block(0, 1, 0), -3);
        due("6: anew all the same", x.grow(100, 4), 5);
        due("6: where", x.of(100, 0), 30);
        due("6: in place all the same", x.grow(100, 5), 10);
        due("6: its handle", x.slot(0, 0), 100);
    }

    /** USED "above his QUOTA can't be". */
    private static void promise6Quota() {
        RegionHandles x = by("r 40 0;b 0 4 3;b 0 2 3;b 0 2 4");
        x.quota(3, 9);
        due("6: one above", x.grow(101, 4), -6);
        due("6: up to it, anew", x.grow(101, 3), 5);
        due("6: used", x.owner(3, 0), 9);
        due("6: nothing more", x.grow(101, 1), -6);
        due("6: nor another of his", x.grow(100, 1), -6);
        due("6: another owner's quota does not bar it, the room does", x.grow(102, 38), -3);
        due("6: another owner's, as far as there is room", x.grow(102, 1), 3);
        x.free(100);
        due("6: doomed ones are used", x.grow(101, 1), -6);
        x.advance();
        due("6: not when they are gone", x.grow(101, 4), 9);
    }

    /** "with its CONTENT; new CELLS are 0; HANDLE and TAG stay". */
    private static void promise6Stays() {
        RegionHandles x = by("r 40 0;b 0 3 6;b 0 9 0;f 1;e;b 0 1 0;t 0 1 1;t 1 2 2");
        x.write(100, 0, 1);
        x.write(100, 2, 3);
        x.hold(0, 100);
        due("6: anew", x.grow(100, 3), 6);
        due("6: where", x.of(100, 0), 4);
        int[] content = {1, 0, 3, 0, 0, 0};
        for (int i = 0; i < 6; i++) due("6: cell " + i, x.read(100, i), content[i]);
        due("6: no more cells", x.read(100, 6), VOID);
        due("6: its handle", x.slot(0, 0), 100);
        due("6: its generation", x.slot(0, 1), 1);
        due("6: its owner", x.of(100, 3), 6);
        due("6: its region", x.of(100, 2), 0);
        due("6: its tag", x.of(100, 5), 101);
        due("6: its tag's place", x.tagged(0), 101);
        due("6: another's", x.tagged(1), 202);
        due("6: it is held", x.tells(0, 1), 6);
        due("6: none is doomed by it", x.count(2), 0);
    }

    /** "new CELLS are 0", where another's content stayed: there, and anew, by either way. */
    private static void promise6NewCells() {
        String[] texts = {"r 30 0;b 0 12 0;b 0 2 0;b 0 12 0;b 0 4 0", "r 30 1;b 0 4 0;b 0 12 0;b 0 2 0;b 0 12 0"};
        for (int way = 0; way < 2; way++) {
            RegionHandles x = by(texts[way]);
            for (int slot = 0; slot < 4; slot++) {
                for (int i = 0; i < x.of(100 + slot, 1); i++) x.write(100 + slot, i, 1000 + i);
            }
            x.free(100 + way);
            x.free(102 + way);
            x.advance();
            int there = 101 + way;
            int anew = way == 0 ? 103 : 100;
            due("6: there, way " + way, x.grow(there, 12), 14);
            due("6: where, way " + way, x.of(there, 0), 12);
            due("6: anew, way " + way, x.grow(anew, 8), 12);
            due("6: where, way " + way, x.of(anew, 0), 0);
            for (int i = 0; i < 14; i++) due("6: there, cell " + i, x.read(there, i), i < 2 ? 1000 + i : 0);
            for (int i = 0; i < 12; i++) due("6: anew, cell " + i, x.read(anew, i), i < 4 ? 1000 + i : 0);
        }
    }

    /** Thirty live blocks, and each of them goes. */
    private static void promise7All() {
        for (int way = 0; way < 2; way++) {
            RegionHandles x = new RegionHandles();
            x.region(40, way);
            for (int i = 0; i < 30; i++) x.block(0, 1, 0);
            due("7: the first goes behind the last", x.grow(100, way == 0 ? 1 : 2), way == 0 ? 2 : 3);
            due("7: one less than all", x.moves(0, way == 0 ? 30 : 31), 29);
            due("7: the last of them", x.moves(0, 240), way == 0 ? 2 : 3);
            due("7: where", x.of(100, 0), way == 0 ? 29 : 8);
            due("7: none is left", x.moves(0, 240), 0);
            RegionHandles y = new RegionHandles();
            y.region(40, way);
            for (int i = 0; i < 30; i++) y.block(0, 1, 0);
            y.grow(100, way == 0 ? 1 : 2);
            due("7: all at once", y.moves(0, 240), way == 0 ? 31 : 32);
        }
    }

    /** "within a budget (0 .. 240)": "if what is left of the budget is its length at least". */
    private static void promise7Budgets() {
        String text = "r 40 0;b 0 1 0;b 0 4 0;b 0 6 0;b 0 2 0;f 0;e";
        int[] budgets = {0, 3, 4, 5, 9, 10, 11, 12, 13, 240};
        int[] used = {0, 0, 4, 4, 4, 10, 10, 12, 12, 12};
        for (int i = 0; i < budgets.length; i++) {
            RegionHandles x = by(text);
            due("7: budget " + budgets[i], x.moves(0, budgets[i]), used[i]);
            due("7: first by " + budgets[i], x.of(101, 0), used[i] >= 4 ? 0 : 1);
            due("7: second by " + budgets[i], x.of(102, 0), used[i] >= 10 ? 4 : 5);
            due("7: third by " + budgets[i], x.of(103, 0), used[i] >= 12 ? 10 : 11);
        }
        RegionHandles y = new RegionHandles();
        y.region(120, 0);
        y.block(0, 1, 0);
        y.block(0, 40, 0);
        y.block(0, 40, 0);
        y.block(0, 39, 0);
        y.free(100);
        y.advance();
        due("7: all that a region can move", y.moves(0, 240), 119);
    }

    /** "else it ends": what is behind stays, though it would be short enough. */
    private static void promise7Ends() {
        RegionHandles x = by("r 40 0;b 0 1 0;b 0 9 0;b 0 2 0;b 0 1 0;f 0;e");
        due("7: the first is too long", x.moves(0, 8), 0);
        due("7: it stays", x.of(101, 0), 1);
        due("7: the second stays", x.of(102, 0), 10);
        due("7: the third stays", x.of(103, 0), 12);
        RegionHandles y = by("r 40 0;b 0 1 0;b 0 2 0;b 0 9 0;b 0 1 0;f 0;e");
        due("7: the second is too long", y.moves(0, 10), 2);
        due("7: the third stays", y.of(103, 0), 12);
        // What can't lie lower costs nothing and does not end it.
        RegionHandles z = by("r 40 0;b 0 9 0;b 0 1 0;b 0 2 0;f 1;e");
        due("7: the first lies as low as it can", z.moves(0, 2), 2);
        due("7: the second went", z.of(102, 0), 9);
        // Nor does a pinned one, that could lie lower but for its pin.
        RegionHandles p = by("r 40 0;b 0 1 0;b 0 9 0;b 0 1 0;b 0 2 0;f 0;f 2;e;p 1");
        due("7: a pinned one costs nothing", p.moves(0, 2), 2);
        due("7: behind it", p.of(103, 0), 10);
    }

    /** WAY 1: "likewise from the highest on, up". */
    private static void promise7Ways() {
        String text = "r 8 0;r 32 1;r 8 0;b 1 1 0;b 1 4 0;b 1 6 0;b 1 2 0;f 0;e";
        int[] budgets = {0, 3, 4, 9, 10, 11, 12, 240};
        int[] used = {0, 0, 4, 4, 10, 10, 12, 12};
        for (int i = 0; i < budgets.length; i++) {
            RegionHandles x = by(text);
            for (int k = 0; k < 6; k++) x.write(102, k, 60 + k);
            due("7: up, budget " + budgets[i], x.moves(1, budgets[i]), used[i]);
            due("7: highest by " + budgets[i], x.of(101, 0), used[i] >= 4 ? 36 : 35);
            due("7: second by " + budgets[i], x.of(102, 0), used[i] >= 10 ? 30 : 29);
            due("7: third by " + budgets[i], x.of(103, 0), used[i] >= 12 ? 28 : 27);
            for (int k = 0; k < 6; k++) due("7: content", x.read(102, k), 60 + k);
        }
        RegionHandles y = by("r 40 1;b 0 1 0;b 0 9 0;b 0 1 0;b 0 2 0;f 0;f 2;e;p 1");
        due("7: up to a pinned one", y.moves(0, 2), 2);
        due("7: under it", y.of(103, 0), 28);
    }

    /** "PINNED and DOOMED ones stay, and the next ones go on behind them"; other regions stay as they are. */
    private static void promise7Neighbours() {
        String gaps = ";b 0 2 0;b 0 3 0;b 0 2 0;b 0 3 0;b 1 2 0;b 1 3 0;f 0;f 2;f 4;e";
        RegionHandles x = by("r 20 0;r 20 0" + gaps);
        x.pin(101, 1);
        due("7: behind a pinned one", x.moves(0, 240), 3);
        due("7: it stays", x.of(101, 0), 2);
        due("7: the next", x.of(103, 0), 5);
        due("7: the row ahead of it is still free", x.would(0, 2, 0), 0);
        due("7: the other region's", x.of(105, 0), 22);
        RegionHandles y = by("r 20 0;r 20 0" + gaps);
        y.enter(0);
        y.free(101);
        due("7: behind a doomed one", y.moves(0, 240), 3);
        due("7: the next", y.of(103, 0), 5);
        due("7: what is seen of it", y.peek(0, 101, 2), 0);
        due("7: the other region", y.moves(1, 240), 3);
        due("7: to its own low end", y.of(105, 0), 20);
        due("7: again", y.moves(1, 240), 0);
    }

    /** "no such CELL": -1 and the length. */
    private static void promises8And9() {
        RegionHandles x = by("r 50 0;b 0 1 0;b 0 40 0;b 0 1 0");
        due("8: the only cell", x.write(100, 0, 5), 0);
        due("8: none behind it", x.write(100, 1, 6), VOID);
        due("8: the last of 40", x.write(101, 39, 7), 0);
        due("8: none behind it", x.write(101, 40, 8), VOID);
        due("9: the neighbour below", x.read(100, 0), 5);
        due("9: the first of 40", x.read(101, 0), 0);
        due("9: the last of 40", x.read(101, 39), 7);
        due("9: behind it", x.read(101, 40), VOID);
        due("9: the neighbour above", x.read(102, 0), 0);
        due("8: least", x.write(100, 0, Integer.MIN_VALUE), 5);
        due("8: greatest", x.write(100, 0, Integer.MAX_VALUE), Integer.MIN_VALUE);
        due("8: what VOID is", x.write(100, 0, VOID), Integer.MAX_VALUE);
        due("9: what VOID is", x.read(100, 0), VOID);
        due("8: it was that", x.write(100, 0, 0), VOID);
        x.grow(102, 1);
        due("8: a cell that came by growing", x.write(102, 1, 3), 0);
        due("8: none behind it", x.write(102, 2, 3), VOID);
    }

    /** "of a DOOMED one, if the EPOCH by which it is DOOMED is that since which he is IN, or a later one". */
    private static void promise10() {
        RegionHandles x = by("r 20 0;b 0 2 0;b 0 3 0;i 0;e;i 1;e;i 5");
        x.write(100, 1, 11);
        x.write(101, 2, 22);
        x.advance();
        x.enter(2);
        x.leave(1);
        x.enter(1);
        x.free(100);
        x.advance();
        x.enter(3);
        x.free(101);
        int[] first = {11, 11, 11, VOID, VOID, 11};
        int[] second = {22, 22, 22, 22, VOID, 22};
        for (int reader = 0; reader < 6; reader++) {
            due("10: the first, by reader " + reader, x.peek(reader, 100, 1), first[reader]);
            due("10: the second, by reader " + reader, x.peek(reader, 101, 2), second[reader]);
            due("10: its first cell", x.peek(reader, 101, 0), second[reader] == VOID ? VOID : 0);
            due("10: -1", x.peek(reader, 101, -1), VOID);
            due("10: behind its last", x.peek(reader, 101, 3), VOID);
        }
        due("10: a new block", x.block(0, 1, 0), 102);
        due("10: live, made behind his entering", x.peek(0, 102, 0), 0);
        due("10: a generation that was not", x.peek(0, 200, 0), VOID);
        for (int reader = 0; reader < 6; reader++) x.leave(reader);
        x.advance();
        x.enter(0);
        due("10: gone", x.peek(0, 100, 1), VOID);
        x.block(0, 2, 0);
        due("10: gone, its slot is another's", x.peek(0, 100, 1), VOID);
    }

    /** What 0 .. 5; "NOT" by 5. */
    private static void promise11() {
        RegionHandles x = by("r 120 0;r 120 1;b 0 1 0;b 1 40 9;t 1 4 99;t 0 0 0");
        for (int i = 0; i < 9; i++) x.pin(101, 1);
        int[] least = {0, 1, 0, 0, 0, 0};
        int[] greatest = {200, 40, 1, 9, 9, 499};
        for (int what = 0; what < 6; what++) {
            due("11: least " + what, x.of(100, what), least[what]);
            due("11: greatest " + what, x.of(101, what), greatest[what]);
        }
        x.block(0, 1, 0);
        due("11: no tag", x.of(102, 5), -2);
    }

    /** "NOT: none LIVE"; "whether it is DOOMED"; "by which EPOCH (3; NOT)". */
    private static void promise12() {
        RegionHandles x = new RegionHandles();
        Scenes.allSlots(x);
        due("12: the first", x.slot(0, 0), 100);
        due("12: the last", x.slot(29, 0), 129);
        x.free(129);
        due("12: doomed by epoch 0", x.slot(29, 3), 0);
        due("12: doomed", x.slot(29, 2), 1);
        due("12: none live", x.slot(29, 0), -2);
        due("12: its generation", x.slot(29, 1), 1);
        due("12: the one ahead is not doomed", x.slot(28, 2), 0);
        due("12: by no epoch", x.slot(28, 3), -2);
        x.advance();
        due("12: gone", x.slot(29, 2), 0);
        due("12: gone, by no epoch", x.slot(29, 3), -2);
        due("12: gone, its generation", x.slot(29, 1), 1);
        x.block(0, 1, 0);
        due("12: the next", x.slot(29, 0), 229);
        due("12: not doomed", x.slot(29, 3), -2);
    }

    /** "100: free in a REGION; 101: in none". */
    private static void promise13() {
        RegionHandles x = new RegionHandles();
        Scenes.allCells(x);
        for (int cell = 0; cell < 240; cell++) {
            int slot = cell < 120 ? cell / 40 : 8 - cell / 40;
            due("13: cell " + cell, x.lies(cell), slot);
        }
        x.free(100);
        due("13: doomed", x.lies(39), 0);
        x.advance();
        due("13: free", x.lies(0), 100);
        due("13: free", x.lies(39), 100);
        due("13: the next one's", x.lies(40), 1);
        RegionHandles y = by("r 8 1");
        due("13: the region's first", y.lies(0), 100);
        due("13: the region's last", y.lies(7), 100);
        due("13: in none", y.lies(8), 101);
        due("13: in none, the last", y.lies(239), 101);
        y.region(7, 0);
        due("13: still in none", y.lies(8), 101);
    }
}
