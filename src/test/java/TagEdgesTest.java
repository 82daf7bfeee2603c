/**
 * The edges that the document names under promises 14 to 21: tags, owners, readers. What is refused beyond them
 * stands in RefusedTest.
 */
public final class TagEdgesTest {
    private static final Check check = new Check();

    private static void due(String call, long got, long want) {
        check.due(call, got, want);
    }

    public static void main(String[] args) {
        promise14Numbers();
        promise14Order();
        promise14Another();
        promise15();
        promise16();
        promise17();
        promise18();
        promise18Share();
        promises19And20();
        promise21Readers();
        promise21All();
        promise21Freed();
        check.end("TagEdgesTest");
    }

    private static RegionHandles by(String text) {
        RegionHandles x = new RegionHandles();
        due("script of \"" + text + "\"", Scenes.script(x, text), text.split(";").length);
        return x;
    }

    /** "A TAG is a SORT (0 .. 4) and a number (0 .. 99)". */
    private static void promise14Numbers() {
        int[] tags = {0, 1, 99, 100, 199, 200, 399, 400, 498, 499};
        RegionHandles x = new RegionHandles();
        Scenes.allSlots(x);
        for (int i = 0; i < tags.length; i++) {
            due("14: tag " + tags[i], x.tag(100 + i, tags[i]), i + 1);
            due("14: of", x.of(100 + i, 5), tags[i]);
            due("14: find", x.find(tags[i]), 100 + i);
        }
        due("14: behind the last", x.tag(110, 500), -1);
        due("14: ahead of the first", x.tag(110, -1), -1);
        due("14: one that none has", x.find(2), -2);
    }

    /** "TAGS stand in the order in which they were given (one that is given anew, to the same BLOCK too, is the last)". */
    private static void promise14Order() {
        RegionHandles x = new RegionHandles();
        Scenes.allSlots(x);
        for (int slot = 29; slot >= 0; slot--) due("14: how many", x.tag(100 + slot, slot), 30 - slot);
        due("14: the first", x.tagged(0), 29);
        due("14: the last of thirty", x.tagged(29), 0);
        due("14: behind it", x.tagged(30), -2);
        due("14: the first anew, the same", x.tag(129, 29), 30);
        due("14: it is the last", x.tagged(29), 29);
        due("14: the others move up", x.tagged(0), 28);
        due("14: the last anew, the same", x.tag(129, 29), 30);
        due("14: it is the last still", x.tagged(29), 29);
        due("14: one in the middle, another tag", x.tag(110, 499), 30);
        due("14: it is the last", x.tagged(29), 499);
        due("14: its old one is none's", x.find(10), -2);
        due("14: the old one to another", x.tag(128, 10), 30);
        due("14: the last", x.tagged(29), 10);
        due("14: the first", x.tagged(0), 27);
    }

    /** "no two LIVE BLOCKS have the same"; a freed one's "TAG goes". */
    private static void promise14Another() {
        RegionHandles x = by("r 20 0;b 0 1 0;b 0 1 0;b 0 1 0;t 0 0 7");
        due("14: another has it", x.tag(101, 7), -5);
        due("14: it has none by that", x.of(101, 5), -2);
        due("14: it itself", x.tag(100, 7), 1);
        x.tag(100, 8);
        due("14: no other has it now", x.tag(101, 7), 2);
        due("14: the one that is had now", x.tag(101, 8), -5);
        due("14: it keeps its own", x.of(101, 5), 7);
        x.free(100);
        due("14: a doomed one has none", x.tag(102, 8), 2);
        due("14: found", x.find(8), 102);
    }

    /** "The HANDLE by its TAG". */
    private static void promise15() {
        RegionHandles x = by("r 20 0;b 0 1 0;t 0 0 0;f 0;e;b 0 1 0");
        due("15: the slot's next one has no tag", x.find(0), -2);
        due("15: nor by itself", x.of(200, 5), -2);
        x.tag(200, 499);
        due("15: with its generation", x.find(499), 200);
        due("15: ahead of it", x.find(498), -2);
        due("15: behind it", x.find(500), -1);
        x.free(200);
        due("15: doomed", x.find(499), -2);
    }

    /** "The k-th TAG, as they stand. BAD (k below 0); NOT". */
    private static void promise16() {
        RegionHandles x = by("r 20 0;b 0 1 0;b 0 1 0;b 0 1 0");
        due("16: none", x.tagged(0), -2);
        due("16: below 0", x.tagged(-1), -1);
        x.tag(101, 0);
        due("16: one", x.tagged(0), 0);
        due("16: behind it", x.tagged(1), -2);
        x.tag(100, 300);
        x.tag(102, 30);
        x.free(101);
        due("16: the first goes", x.tagged(0), 300);
        due("16: the last", x.tagged(1), 30);
        due("16: behind it", x.tagged(2), -2);
        x.free(102);
        x.free(100);
        due("16: none again", x.tagged(0), -2);
    }

    /** "STATE: USED is above n"; n 0 .. 240, OWNERS 0 .. 9. */
    private static void promise17() {
        RegionHandles x = by("r 20 0;b 0 5 0;b 0 4 9");
        due("17: owner 0, one less than used", x.quota(0, 4), -5);
        due("17: as much as is used", x.quota(0, 5), 240);
        due("17: it was that", x.quota(0, 240), 5);
        due("17: owner 9", x.quota(9, 4), 240);
        due("17: one less", x.quota(9, 3), -5);
        due("17: 0 where nothing is used", x.quota(8, 0), 240);
        due("17: it was 0", x.quota(8, 1), 0);
        x.free(101);
        due("17: a doomed one is used", x.quota(9, 3), -5);
        x.advance();
        due("17: not when it is gone", x.quota(9, 0), 4);
        due("17: none can be", x.block(0, 1, 9), -6);
        x.quota(9, 1);
        due("17: one can be", x.block(0, 1, 9), 201);
        RegionHandles y = new RegionHandles();
        Scenes.allCells(y);
        due("17: 239 of 240 used", y.quota(0, 239), -5);
        due("17: 240 of 240", y.quota(0, 240), 240);
    }

    /** USED (LIVE and DOOMED), QUOTA, SHARE, LIVE BLOCKS; OWNERS 0 .. 9. */
    private static void promise18() {
        RegionHandles x = by("r 60 0;b 0 1 0;b 0 40 9;b 0 2 9;f 2;t 0 0 1");
        int[] first = {1, 240, 0, 1};
        int[] last = {42, 240, 40, 1};
        for (int what = 0; what < 4; what++) {
            due("18: owner 0, " + what, x.owner(0, what), first[what]);
            due("18: owner 9, " + what, x.owner(9, what), last[what]);
            due("18: owner 5, " + what, x.owner(5, what), what == 1 ? 240 : 0);
        }
        x.advance();
        due("18: what is gone is not used", x.owner(9, 0), 40);
        RegionHandles y = new RegionHandles();
        Scenes.allCells(y);
        due("18: all", y.owner(0, 0), 240);
        due("18: all are leaked", y.owner(0, 2), 240);
        due("18: six", y.owner(0, 3), 6);
    }

    /** "CELLS of his that are LEAKED". */
    private static void promise18Share() {
        RegionHandles x = by("r 60 0;b 0 2 1;b 0 3 1;b 0 4 1;b 0 5 2");
        due("18: all of his", x.owner(1, 2), 9);
        x.pin(100, 1);
        due("18: a pinned one is reached", x.owner(1, 2), 7);
        x.write(100, 1, 101);
        due("18: of which it holds the handle", x.owner(1, 2), 4);
        x.write(101, 2, 103);
        due("18: another owner's", x.owner(2, 2), 0);
        x.tag(102, 0);
        due("18: none", x.owner(1, 2), 0);
        x.pin(100, -1);
        due("18: not pinned", x.owner(1, 2), 5);
        due("18: another owner's", x.owner(2, 2), 5);
        x.free(102);
        due("18: a doomed one is not leaked", x.owner(1, 2), 5);
        due("18: but it is used", x.owner(1, 0), 9);
    }

    /** "READERS 0 .. 5 are OUT (at first), or IN since an EPOCH". */
    private static void promises19And20() {
        RegionHandles x = new RegionHandles();
        for (int reader = 0; reader < 6; reader++) {
            due("20: out at first", x.leave(reader), -5);
            due("19: in since", x.enter(reader), reader);
            due("19: again", x.enter(reader), -5);
            due("26: bits", x.epochs(2), (2 << reader) - 1);
            x.advance();
            due("19: again, by another epoch", x.enter(reader), -5);
        }
        for (int reader = 0; reader < 6; reader++) {
            due("20: since", x.leave(reader), reader);
            due("20: again", x.leave(reader), -5);
        }
        due("19: anew, since now", x.enter(5), 6);
        due("20: since then", x.leave(5), 6);
    }

    /** "if no READER is IN since that EPOCH (by which it is DOOMED) or an earlier one". */
    private static void promise21Readers() {
        for (int since = 0; since < 4; since++) {
            for (int reader = 0; reader < 6; reader += 5) {
                RegionHandles x = by("r 20 0;b 0 2 0");
                for (int epoch = 0; epoch < 4; epoch++) {
                    if (epoch == since && since < 2) x.enter(reader);
                    if (epoch == 1) x.free(100);
                    if (epoch == since && since >= 2) x.enter(reader);
                    int gone = x.advance();
                    int due = epoch != 1 || since <= 1 ? 0 : 1;
                    due("21: in since " + since + ", by epoch " + (epoch + 1), gone, due);
                }
                due("21: stays while he is in", x.slot(0, 2), since <= 1 ? 1 : 0);
                x.leave(reader);
                due("21: when he is out", x.advance(), since <= 1 ? 1 : 0);
                due("21: its cells are free", x.lies(0), 100);
            }
        }
        // Who enters behind the free, by the same epoch, is in since that epoch too.
        RegionHandles y = by("r 20 0;b 0 2 0;f 0;i 3");
        due("21: in since that epoch", y.advance(), 0);
        due("21: still", y.advance(), 0);
        y.leave(3);
        y.enter(3);
        due("21: in since a later one", y.advance(), 1);
        RegionHandles z = by("r 20 0;b 0 2 0;i 3;i 4;f 0;o 3");
        due("21: one of two is in", z.advance(), 0);
        z.leave(4);
        due("21: none is in", z.advance(), 1);
    }

    /** "how many BLOCKS are gone": none, some, all. */
    private static void promise21All() {
        RegionHandles x = new RegionHandles();
        Scenes.allSlots(x);
        due("21: none is doomed", x.advance(), 0);
        for (int slot = 0; slot < 29; slot++) x.free(100 + slot);
        x.enter(0);
        x.advance();
        x.free(129);
        x.leave(0);
        x.enter(1);
        due("21: those of the epoch ahead", x.advance(), 29);
        due("21: the other stays", x.count(2), 1);
        x.leave(1);
        due("21: the last", x.advance(), 1);
        due("21: nobody is left", x.advance(), 0);
        due("21: epoch", x.count(4), 5);
        for (int slot = 0; slot < 30; slot++) x.block(0, 1, 0);
        for (int slot = 0; slot < 30; slot++) x.free(200 + slot);
        due("21: all thirty", x.advance(), 30);
        due("21: no cells in blocks", x.count(5), 0);
        due("21: one row", x.would(0, 1, 2), 40);
    }

    /** "is gone (its CELLS are free ..)": its slot, its cells, its share of the quota; not its generation. */
    private static void promise21Freed() {
        RegionHandles x = by("r 8 0;b 0 8 2;f 0");
        x.quota(2, 8);
        due("21: no free row yet", x.block(0, 1, 3), -3);
        due("21: no quota yet", x.block(0, 1, 2), -6);
        due("21: gone", x.advance(), 1);
        due("21: not doomed", x.slot(0, 2), 0);
        due("21: its generation stays", x.slot(0, 1), 1);
        due("21: its slot, its cells, its quota", x.block(0, 8, 2), 200);
    }
}
