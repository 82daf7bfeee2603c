/** Promises 1 to 13: regions, blocks. */
public final class RegionsBlocksTest {
    private static final int VOID = RegionHandles.VOID;
    private static final Check check = new Check();

    private static void due(String call, long got, long want) {
        check.due(call, got, want);
    }

    public static void main(String[] args) {
        promise1();
        promise2();
        promise3();
        promise3Slots();
        promise3Ways();
        promise4();
        promise5();
        promise6InPlace();
        promise6BetweenBlocks();
        promise6Elsewhere();
        promise6Refused();
        promise7FromBelow();
        promise7FromAbove();
        promise7Stays();
        promise8();
        promise9();
        promise10();
        promise11();
        promise12();
        promise13();
        check.end("RegionsBlocksTest");
    }

    private static void promise1() {
        RegionHandles x = new RegionHandles();
        for (int what = 0; what < 8; what++) due("1: count " + what, x.count(what), 0);
        for (int cell = 0; cell < 240; cell++) due("1: lies " + cell, x.lies(cell), 101);
        for (int owner = 0; owner < 10; owner++) {
            due("1: quota", x.owner(owner, 1), 240);
            due("1: used", x.owner(owner, 0), 0);
        }
        due("1: readers", x.epochs(2), 0);
        due("1: generation", x.slot(0, 1), 0);
        due("1: no image", x.back(), -5);
        due("1: no region", x.block(0, 1, 0), -1);
        due("1: nothing held", x.tells(0, 0), -11);
    }

    private static void promise2() {
        RegionHandles x = new RegionHandles();
        due("2: too short", x.region(7, 0), -1);
        due("2: too long", x.region(121, 0), -1);
        due("2: way below", x.region(8, -1), -1);
        due("2: way above", x.region(8, 2), -1);
        due("2: longest", x.region(120, 1), 0);
        due("2: no room", new RegionHandles().region(Integer.MAX_VALUE, 0), -1);
        due("2: second", x.region(112, 0), 1);
        due("2: no room for 9", x.region(9, 0), -3);
        due("2: shortest, the last 8", x.region(8, 0), 2);
        due("2: full", x.region(8, 0), -3);
        due("2: bad before full", x.region(7, 0), -1);
        due("2: the second's place", x.of(x.block(1, 1, 0), 0), 120);
        due("2: the third's place", x.of(x.block(2, 1, 0), 0), 232);
        RegionHandles y = new RegionHandles();
        for (int i = 0; i < 6; i++) due("2: six", y.region(8, i % 2), i);
        due("2: a seventh", y.region(8, 0), -3);
        due("2: how many", y.count(0), 6);
    }

    private static void promise3() {
        RegionHandles x = new RegionHandles();
        x.region(50, 0);
        due("3: region -1", x.block(-1, 1, 0), -1);
        due("3: region 1", x.block(1, 1, 0), -1);
        due("3: length 0", x.block(0, 0, 0), -1);
        due("3: length 41", x.block(0, 41, 0), -1);
        due("3: owner -1", x.block(0, 1, -1), -1);
        due("3: owner 10", x.block(0, 1, 10), -1);
        due("3: length 40", x.block(0, 40, 9), 100);
        due("3: no free row", x.block(0, 11, 9), -3);
        x.quota(9, 45);
        due("3: quota before full", x.block(0, 11, 9), -6);
        due("3: up to the quota", x.block(0, 5, 9), 101);
        due("3: above the quota", x.block(0, 1, 9), -6);
        due("3: bad before quota", x.block(1, 1, 9), -1);
        due("3: another owner", x.block(0, 5, 8), 102);
        x.write(102, 0, 77);
        x.free(102);
        x.free(101);
        due("3: doomed ones count", x.block(0, 1, 9), -6);
        due("3: doomed ones lie", x.block(0, 1, 8), -3);
        x.advance();
        due("3: cells become 0", x.read(x.block(0, 10, 8), 5), 0);
    }

    private static void promise3Slots() {
        RegionHandles x = new RegionHandles();
        x.region(40, 0);
        for (int slot = 0; slot < 30; slot++) due("3: slot", x.block(0, 1, 0), 100 + slot);
        due("3: no slot", x.block(0, 1, 0), -3);
        x.free(107);
        due("3: a doomed one has its slot", x.block(0, 1, 0), -3);
        x.free(103);
        x.advance();
        due("3: the least slot", x.block(0, 1, 0), 203);
        due("3: the next one", x.block(0, 1, 0), 207);
        x.free(203);
        x.advance();
        due("3: one generation more", x.block(0, 1, 0), 303);
        due("3: an old handle", x.read(203, 0), VOID);
        due("3: generation", x.slot(3, 1), 3);
        due("3: of another", x.slot(4, 1), 1);
    }

    private static void promise3Ways() {
        for (int way = 0; way < 2; way++) {
            RegionHandles x = new RegionHandles();
            x.region(10, 0);
            x.region(20, way);
            x.block(1, 4, 0);
            x.block(1, 2, 0);
            x.block(1, 2, 0);
            x.block(1, 3, 0);
            due("3: first", x.of(100, 0), way == 0 ? 10 : 26);
            due("3: second", x.of(101, 0), way == 0 ? 14 : 24);
            due("3: third", x.of(102, 0), way == 0 ? 16 : 22);
            x.free(100);
            x.free(102);
            x.advance();
            due("3: the first row that is long enough", x.of(x.block(1, 3, 0), 0), way == 0 ? 10 : 27);
            due("3: the row behind it", x.of(x.block(1, 2, 0), 0), way == 0 ? 16 : 22);
            due("3: what is left of the first", x.of(x.block(1, 1, 0), 0), way == 0 ? 13 : 26);
        }
    }

    private static void promise4() {
        RegionHandles x = new RegionHandles();
        x.region(20, 0);
        x.block(0, 3, 4);
        x.tag(100, 7);
        x.pin(100, 1);
        due("4: pinned", x.free(100), -5);
        due("4: still there", x.of(100, 1), 3);
        x.pin(100, -1);
        x.advance();
        x.advance();
        due("4: epoch", x.free(100), 2);
        due("4: again", x.free(100), -4);
        due("4: doomed", x.slot(0, 2), 1);
        due("4: by the epoch", x.slot(0, 3), 2);
        due("4: its tag goes", x.find(7), -2);
        due("4: no tags", x.count(3), 0);
        due("4: handles are stale", x.of(100, 0), -4);
        due("4: its cells are not free", x.lies(2), 0);
        due("4: no such slot", x.free(130), -4);
        due("4: no such generation", x.free(200), -4);
        due("4: below 0", x.free(-100), -4);
        due("4: least int", x.free(Integer.MIN_VALUE), -4);
        due("4: slot without a block", x.free(1), -4);
    }

    private static void promise5() {
        RegionHandles x = new RegionHandles();
        x.region(20, 0);
        x.block(0, 3, 4);
        due("5: n 0", x.pin(100, 0), -1);
        due("5: n 2", x.pin(100, 2), -1);
        due("5: n -2", x.pin(100, -2), -1);
        due("5: bad before stale", x.pin(999, 0), -1);
        due("5: stale", x.pin(101, 1), -4);
        due("5: none to take", x.pin(100, -1), -5);
        for (int n = 1; n <= 9; n++) due("5: more", x.pin(100, 1), n);
        due("5: a tenth", x.pin(100, 1), -5);
        due("5: still 9", x.of(100, 4), 9);
        for (int n = 8; n >= 0; n--) due("5: less", x.pin(100, -1), n);
        x.free(100);
        due("5: doomed", x.pin(100, 1), -4);
        x.advance();
        due("5: a new one has none", x.of(x.block(0, 3, 4), 4), 0);
    }

    private static void promise6InPlace() {
        RegionHandles x = new RegionHandles();
        x.region(20, 1);
        x.region(20, 0);
        x.block(0, 5, 0);
        x.block(0, 4, 0);
        x.write(101, 3, 8);
        x.free(100);
        x.advance();
        due("6: up, by way 1 too", x.grow(101, 5), 9);
        due("6: at its place", x.of(101, 0), 11);
        due("6: content", x.read(101, 3), 8);
        due("6: new cells are 0", x.read(101, 4), 0);
        due("6: not across the region's end", x.grow(101, 1), 10);
        due("6: so it went", x.of(101, 0), 1);
        due("6: content went along", x.read(101, 3), 8);
    }

    private static void promise6BetweenBlocks() {
        RegionHandles x = new RegionHandles();
        x.region(30, 0);
        x.block(0, 4, 0);
        x.block(0, 2, 0);
        x.block(0, 4, 0);
        x.write(101, 0, 5);
        x.write(101, 1, 6);
        x.free(101);
        x.advance();
        due("6: all that is free above", x.grow(100, 2), 6);
        due("6: there", x.of(100, 0), 0);
        due("6: cells that were another's are 0", x.read(100, 4), 0);
        due("6: cells that were another's are 0", x.read(100, 5), 0);
    }

    private static void promise6Elsewhere() {
        RegionHandles x = new RegionHandles();
        x.region(30, 0);
        x.block(0, 4, 3);
        x.block(0, 9, 3);
        x.block(0, 4, 3);
        for (int i = 0; i < 9; i++) x.write(101, i, 50 + i);
        x.free(101);
        x.advance();
        x.block(0, 2, 3);
        due("6: slot 1 anew", x.slot(1, 0), 201);
        x.write(201, 1, 9);
        x.tag(100, 12);
        x.write(100, 2, 5);
        due("6: elsewhere", x.grow(100, 1), 5);
        due("6: first row that is long enough", x.of(100, 0), 6);
        due("6: content", x.read(100, 2), 5);
        due("6: new cell is 0", x.read(100, 4), 0);
        due("6: tag stays", x.find(12), 100);
        due("6: its old cells are free", x.lies(0), 100);
        due("6: the new ones aren't", x.lies(10), 0);
        due("6: old cells count as taken", x.grow(201, 5), 7);
        due("6: beyond", x.of(201, 0), 17);
        due("6: content of that", x.read(201, 1), 9);
        due("6: used", x.owner(3, 0), 16);
    }

    private static void promise6Refused() {
        RegionHandles x = new RegionHandles();
        x.region(60, 0);
        x.block(0, 10, 2);
        due("6: n 0", x.grow(100, 0), -1);
        due("6: n 40", x.grow(100, 40), -1);
        due("6: n below 0", x.grow(100, -3), -1);
        due("6: bad before stale", x.grow(101, 0), -1);
        due("6: stale", x.grow(101, 1), -4);
        due("6: 41 in all", x.grow(100, 31), -3);
        x.quota(2, 20);
        due("6: quota before full", x.grow(100, 31), -6);
        due("6: quota", x.grow(100, 11), -6);
        x.pin(100, 1);
        due("6: pinned before quota", x.grow(100, 11), -5);
        x.pin(100, -1);
        due("6: up to the quota", x.grow(100, 10), 20);
        x.quota(2, 240);
        due("6: 40 in all", x.grow(100, 20), 40);
        due("6: no more", x.grow(100, 1), -3);
        x.block(0, 10, 2);
        due("6: no free row", x.grow(101, 11), -3);
        due("6: nothing changed", x.of(101, 1), 10);
        x.block(0, 10, 2);
        x.free(100);
        due("6: doomed cells are taken", x.grow(101, 1), -3);
        x.advance();
        due("6: free cells below alone: elsewhere", x.grow(101, 1), 11);
        due("6: there", x.of(101, 0), 0);
    }

    private static void promise7FromBelow() {
        RegionHandles x = new RegionHandles();
        x.region(8, 0);
        x.region(40, 0);
        for (int i = 0; i < 5; i++) x.block(1, 4, 0);
        for (int i = 0; i < 5; i++) {
            for (int k = 0; k < 4; k++) x.write(100 + i, k, 10 * i + k);
        }
        x.free(100);
        x.free(102);
        x.advance();
        due("7: region -1", x.moves(-1, 5), -1);
        due("7: region 2", x.moves(2, 5), -1);
        due("7: budget -1", x.moves(1, -1), -1);
        due("7: budget 241", x.moves(1, 241), -1);
        due("7: budget 0", x.moves(1, 0), 0);
        due("7: one too few", x.moves(1, 3), 0);
        due("7: two of three, not a part of one", x.moves(1, 11), 8);
        due("7: first", x.of(101, 0), 8);
        due("7: second", x.of(103, 0), 12);
        due("7: third stays", x.of(104, 0), 24);
        due("7: the rest", x.moves(1, 240), 4);
        due("7: third", x.of(104, 0), 16);
        for (int i = 1; i < 5; i += i == 1 ? 2 : 1) {
            for (int k = 0; k < 4; k++) due("7: content", x.read(100 + i, k), 10 * i + k);
        }
        due("7: all are low", x.moves(1, 240), 0);
        due("7: free behind", x.lies(20), 100);
        due("7: an empty region", x.moves(0, 240), 0);
    }

    private static void promise7FromAbove() {
        RegionHandles x = new RegionHandles();
        x.region(20, 1);
        for (int i = 0; i < 3; i++) x.block(0, 6, 0);
        for (int k = 0; k < 6; k++) x.write(101, k, k + 1);
        x.free(100);
        x.advance();
        due("7: up", x.moves(0, 6), 6);
        due("7: first", x.of(101, 0), 14);
        for (int k = 0; k < 6; k++) due("7: content", x.read(101, k), k + 1);
        due("7: second not yet", x.of(102, 0), 2);
        due("7: second", x.moves(0, 6), 6);
        due("7: its place", x.of(102, 0), 8);
        RegionHandles y = new RegionHandles();
        y.region(20, 1);
        y.block(0, 2, 0);
        y.block(0, 9, 0);
        for (int k = 0; k < 9; k++) y.write(101, k, k + 1);
        y.free(100);
        y.advance();
        y.moves(0, 9);
        for (int k = 0; k < 9; k++) due("7: content that overlaps", y.read(101, k), k + 1);
    }

    private static void promise7Stays() {
        RegionHandles x = new RegionHandles();
        x.region(40, 0);
        for (int i = 0; i < 6; i++) x.block(0, 3, 0);
        x.free(100);
        x.free(103);
        x.advance();
        x.pin(101, 1);
        x.free(104);
        x.block(0, 1, 0);
        x.free(200);
        x.advance();
        due("7: it is gone", x.lies(0), 100);
        x.block(0, 1, 0);
        due("7: nothing can go below a pinned one", x.moves(0, 240), 3);
        due("7: pinned stays", x.of(101, 0), 3);
        due("7: packed behind it", x.of(102, 0), 6);
        due("7: behind", x.of(105, 0), 9);
        x.free(102);
        due("7: doomed stays", x.moves(0, 240), 0);
        x.pin(101, -1);
        due("7: it goes, what is behind a doomed one doesn't", x.moves(0, 240), 3);
        due("7: behind the block below it", x.of(101, 0), 1);
        due("7: behind the doomed one", x.of(105, 0), 9);
        RegionHandles y = new RegionHandles();
        y.region(20, 0);
        y.block(0, 2, 0);
        y.block(0, 5, 0);
        y.block(0, 1, 0);
        y.free(100);
        y.advance();
        due("7: a shorter one behind does not go by", y.moves(0, 4), 0);
        due("7: it stays", y.of(102, 0), 7);
    }

    private static void promise8() {
        RegionHandles x = new RegionHandles();
        x.region(20, 0);
        x.block(0, 3, 0);
        x.block(0, 3, 0);
        due("8: first", x.write(100, 2, -5), 0);
        due("8: what it was", x.write(100, 2, Integer.MIN_VALUE), -5);
        due("8: any int", x.write(100, 2, 1), Integer.MIN_VALUE);
        due("8: cell 3", x.write(100, 3, 9), VOID);
        due("8: cell -1", x.write(101, -1, 9), VOID);
        due("8: greatest", x.write(101, Integer.MAX_VALUE, 9), VOID);
        due("8: stale", x.write(102, 0, 9), VOID);
        due("8: the other's", x.read(101, 0), 0);
        due("8: still", x.read(100, 2), 1);
        x.free(100);
        due("8: doomed", x.write(100, 0, 9), VOID);
    }

    private static void promise9() {
        RegionHandles x = new RegionHandles();
        x.region(20, 0);
        x.block(0, 3, 0);
        x.write(100, 0, 4);
        x.write(100, 2, 6);
        due("9: 0", x.read(100, 0), 4);
        due("9: 1", x.read(100, 1), 0);
        due("9: 2", x.read(100, 2), 6);
        due("9: 3", x.read(100, 3), VOID);
        due("9: -1", x.read(100, -1), VOID);
        due("9: stale", x.read(200, 0), VOID);
        due("9: slot 30", x.read(30, 0), VOID);
        due("9: generation 0", x.read(0, 0), VOID);
        x.free(100);
        due("9: doomed", x.read(100, 0), VOID);
        due("VOID", VOID, -2000000000L);
    }

    private static void promise10() {
        RegionHandles x = new RegionHandles();
        x.region(20, 0);
        x.block(0, 3, 0);
        x.write(100, 1, 44);
        due("10: out", x.peek(0, 100, 1), VOID);
        x.enter(0);
        due("10: live", x.peek(0, 100, 1), 44);
        due("10: no such cell", x.peek(0, 100, 3), VOID);
        due("10: below", x.peek(0, 100, -1), VOID);
        due("10: reader -1", x.peek(-1, 100, 1), VOID);
        due("10: reader 6", x.peek(6, 100, 1), VOID);
        due("10: none such", x.peek(0, 200, 1), VOID);
        x.advance();
        x.enter(1);
        x.free(100);
        due("10: doomed by a later one", x.peek(0, 100, 1), 44);
        due("10: doomed by that since which he is in", x.peek(1, 100, 1), 44);
        x.advance();
        x.enter(2);
        due("10: doomed by an earlier one", x.peek(2, 100, 1), VOID);
        due("10: no such cell of a doomed one", x.peek(1, 100, 3), VOID);
        x.leave(0);
        due("10: out again", x.peek(0, 100, 1), VOID);
        x.leave(1);
        x.advance();
        x.block(0, 3, 0);
        due("10: the slot's old handle", x.peek(2, 100, 1), VOID);
        due("10: the new one", x.peek(2, 200, 1), 0);
    }

    private static void promise11() {
        RegionHandles x = new RegionHandles();
        x.region(10, 0);
        x.region(20, 1);
        x.block(0, 1, 2);
        x.block(1, 6, 7);
        x.pin(101, 1);
        x.pin(101, 1);
        due("11: where", x.of(101, 0), 24);
        due("11: length", x.of(101, 1), 6);
        due("11: region", x.of(101, 2), 1);
        due("11: owner", x.of(101, 3), 7);
        due("11: pins", x.of(101, 4), 2);
        due("11: no tag", x.of(101, 5), -2);
        x.tag(101, 0);
        due("11: tag 0", x.of(101, 5), 0);
        x.tag(101, 499);
        due("11: tag 499", x.of(101, 5), 499);
        due("11: what 6", x.of(101, 6), -1);
        due("11: what -1", x.of(101, -1), -1);
        due("11: bad before stale", x.of(5, 6), -1);
        due("11: stale", x.of(102, 0), -4);
        x.free(100);
        due("11: doomed", x.of(100, 0), -4);
    }

    private static void promise12() {
        RegionHandles x = new RegionHandles();
        x.region(20, 0);
        x.block(0, 3, 0);
        due("12: handle", x.slot(0, 0), 100);
        due("12: generation", x.slot(0, 1), 1);
        due("12: not doomed", x.slot(0, 2), 0);
        due("12: by none", x.slot(0, 3), -2);
        due("12: none live", x.slot(29, 0), -2);
        due("12: generation of none", x.slot(29, 1), 0);
        due("12: none doomed", x.slot(29, 2), 0);
        x.advance();
        x.free(100);
        x.enter(0);
        due("12: doomed, not live", x.slot(0, 0), -2);
        due("12: doomed", x.slot(0, 2), 1);
        due("12: by epoch", x.slot(0, 3), 1);
        x.advance();
        due("12: still by that epoch", x.slot(0, 3), 1);
        x.leave(0);
        x.advance();
        due("12: gone", x.slot(0, 2), 0);
        due("12: gone, by none", x.slot(0, 3), -2);
        due("12: its generation stays", x.slot(0, 1), 1);
        due("12: slot -1", x.slot(-1, 0), -1);
        due("12: slot 30", x.slot(30, 0), -1);
        due("12: what 4", x.slot(0, 4), -1);
        due("12: what -1", x.slot(0, -1), -1);
    }

    private static void promise13() {
        RegionHandles x = new RegionHandles();
        due("13: in none", x.lies(0), 101);
        x.region(8, 1);
        x.region(8, 0);
        x.block(1, 2, 0);
        x.block(0, 2, 0);
        due("13: free", x.lies(5), 100);
        due("13: from above", x.lies(6), 1);
        due("13: from above", x.lies(7), 1);
        due("13: from below", x.lies(8), 0);
        due("13: from below", x.lies(9), 0);
        due("13: free behind", x.lies(10), 100);
        due("13: free at the end", x.lies(15), 100);
        due("13: in none", x.lies(16), 101);
        due("13: the last", x.lies(239), 101);
        due("13: behind it", x.lies(240), -1);
        due("13: below", x.lies(-1), -1);
        x.free(100);
        due("13: doomed", x.lies(8), 0);
        x.advance();
        due("13: gone", x.lies(8), 100);
    }
}
