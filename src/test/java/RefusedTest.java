import java.util.function.Consumer;
import java.util.function.ToIntFunction;

/**
 * "What is answered so changes nothing", and "of several the one named first": each call's refusals, by its promise;
 * and the calls that only look, which change nothing either ("In thought (nothing changes)").
 */
public final class RefusedTest {
    private static final int BAD = -1, NOT = -2, FULL = -3, STALE = -4, STATE = -5, QUOTA = -6;
    private static final int NOTHING_THERE = -11, ANOTHER_SORT = -12, SIZE_BELOW_0 = -14;
    private static final int VOID = RegionHandles.VOID;
    private static final int LEAST = Integer.MIN_VALUE, GREATEST = Integer.MAX_VALUE;
    private static final Check check = new Check();

    private static void town(String call, int want, ToIntFunction<RegionHandles> asked) {
        check.unchanged(call, Scenes.TOWN, asked, want);
    }

    private static void behind(Consumer<RegionHandles> way, String call, int want, ToIntFunction<RegionHandles> asked) {
        check.unchanged(call, way, asked, want);
    }

    public static void main(String[] args) {
        promise2();
        promise3();
        promise4();
        promise5();
        promise6();
        promise7();
        promises8To10();
        promises11To13();
        promises14To16();
        promises17And18();
        promises19And20();
        promises22And23();
        promises24To26();
        promises27And28();
        promises29To32();
        promise33();
        promises34And35();
        promises36And37();
        check.end("RefusedTest");
    }

    private static void promise2() {
        town("2: length 7", BAD, x -> x.region(7, 0));
        town("2: length 121", BAD, x -> x.region(121, 0));
        town("2: length 0", BAD, x -> x.region(0, 0));
        town("2: least length", BAD, x -> x.region(LEAST, 0));
        town("2: greatest length", BAD, x -> x.region(GREATEST, 1));
        town("2: way -1", BAD, x -> x.region(8, -1));
        town("2: way 2", BAD, x -> x.region(120, 2));
        town("2: least way", BAD, x -> x.region(8, LEAST));
        town("2: greatest way", BAD, x -> x.region(8, GREATEST));
        behind(Scenes.ALL_REGIONS, "2: a seventh, with room in memory", FULL, x -> x.region(8, 0));
        behind(Scenes.ALL_REGIONS, "2: a seventh: length named first", BAD, x -> x.region(7, 0));
        behind(Scenes.ALL_REGIONS, "2: a seventh: way named first", BAD, x -> x.region(8, 2));
        behind(Scenes.ALL_CELLS, "2: a third, without room", FULL, x -> x.region(8, 0));
        behind(Scenes.ALL_CELLS, "2: a third: length named first", BAD, x -> x.region(121, 0));
        behind(Scenes.ALL_CELLS, "2: a third: way named first", BAD, x -> x.region(8, -1));
        Consumer<RegionHandles> sevenLeft = x -> {
            x.region(120, 0);
            x.region(113, 1);
        };
        behind(sevenLeft, "2: 8 where 7 are left", FULL, x -> x.region(8, 0));
        behind(sevenLeft, "2: 120 where 7 are left", FULL, x -> x.region(120, 0));
    }

    private static void promise3() {
        town("3: region -1", BAD, x -> x.block(-1, 1, 0));
        town("3: region 3 of 3", BAD, x -> x.block(3, 1, 0));
        town("3: region 6", BAD, x -> x.block(6, 1, 0));
        town("3: least region", BAD, x -> x.block(LEAST, 1, 0));
        town("3: greatest region", BAD, x -> x.block(GREATEST, 1, 0));
        town("3: length 0", BAD, x -> x.block(0, 0, 0));
        town("3: length -1", BAD, x -> x.block(0, -1, 0));
        town("3: length 41", BAD, x -> x.block(0, 41, 0));
        town("3: least length", BAD, x -> x.block(0, LEAST, 0));
        town("3: greatest length", BAD, x -> x.block(0, GREATEST, 0));
        town("3: owner -1", BAD, x -> x.block(0, 1, -1));
        town("3: owner 10", BAD, x -> x.block(0, 1, 10));
        town("3: least owner", BAD, x -> x.block(0, 1, LEAST));
        town("3: greatest owner", BAD, x -> x.block(0, 1, GREATEST));
        town("3: one above the quota", QUOTA, x -> x.block(0, 1, 3));
        town("3: a quota of 0", QUOTA, x -> x.block(0, 1, 7));
        town("3: region named ahead of the quota", BAD, x -> x.block(3, 1, 7));
        town("3: length named ahead of the quota", BAD, x -> x.block(0, 41, 7));
        town("3: quota named ahead of no free row", QUOTA, x -> x.block(2, 1, 7));
        town("3: length named ahead of no free row", BAD, x -> x.block(2, 0, 0));
        town("3: owner named ahead of no free row", BAD, x -> x.block(2, 1, 10));
        town("3: one longer than the longest free row", FULL, x -> x.block(0, 18, 0));
        town("3: one longer, way 1", FULL, x -> x.block(1, 19, 0));
        town("3: a full region", FULL, x -> x.block(2, 1, 0));
        behind(Scenes.ALL_SLOTS, "3: no slot, with a free row", FULL, x -> x.block(0, 1, 0));
        behind(Scenes.ALL_SLOTS, "3: region named ahead of no slot", BAD, x -> x.block(1, 1, 0));
        behind(Scenes.ALL_SLOTS.andThen(x -> x.quota(4, 3)), "3: quota named ahead of no slot", QUOTA,
            x -> x.block(0, 1, 4));
        behind(Scenes.ALL_SLOTS.andThen(x -> x.free(129)), "3: a doomed one has its slot", FULL,
            x -> x.block(0, 1, 0));
        behind(Scenes.ALL_CELLS, "3: all of the memory is used, and all of a quota", QUOTA, x -> x.block(0, 1, 0));
        behind(Scenes.ALL_CELLS, "3: all of the memory is used", FULL, x -> x.block(0, 1, 1));
        behind(Scenes.NOTHING, "3: no region yet", BAD, x -> x.block(0, 1, 0));
    }

    private static void promise4() {
        town("4: doomed", STALE, x -> x.free(106));
        town("4: an old generation", STALE, x -> x.free(100));
        town("4: a coming generation", STALE, x -> x.free(300));
        town("4: an old generation of one that is pinned", STALE, x -> x.free(2));
        town("4: a slot without a block", STALE, x -> x.free(108));
        town("4: a slot without a block, generation 0", STALE, x -> x.free(8));
        town("4: slot 30", STALE, x -> x.free(130));
        town("4: slot 99", STALE, x -> x.free(199));
        town("4: -1", STALE, x -> x.free(-1));
        town("4: below 0", STALE, x -> x.free(-101));
        town("4: least", STALE, x -> x.free(LEAST));
        town("4: greatest", STALE, x -> x.free(GREATEST));
        town("4: 1 pin", STATE, x -> x.free(102));
        town("4: 9 pins", STATE, x -> x.free(104));
    }

    private static void promise5() {
        town("5: n 0", BAD, x -> x.pin(200, 0));
        town("5: n 2", BAD, x -> x.pin(200, 2));
        town("5: n -2", BAD, x -> x.pin(104, -2));
        town("5: least n", BAD, x -> x.pin(104, LEAST));
        town("5: greatest n", BAD, x -> x.pin(200, GREATEST));
        town("5: n named ahead of stale", BAD, x -> x.pin(106, 0));
        town("5: n named ahead of state", BAD, x -> x.pin(104, 2));
        town("5: doomed", STALE, x -> x.pin(106, 1));
        town("5: doomed, less", STALE, x -> x.pin(106, -1));
        town("5: an old generation", STALE, x -> x.pin(100, 1));
        town("5: stale named ahead of state", STALE, x -> x.pin(4, 1));
        town("5: a tenth", STATE, x -> x.pin(104, 1));
        town("5: none to take", STATE, x -> x.pin(200, -1));
    }

    private static void promise6() {
        town("6: n 0", BAD, x -> x.grow(200, 0));
        town("6: n -1", BAD, x -> x.grow(200, -1));
        town("6: n 40", BAD, x -> x.grow(107, 40));
        town("6: least n", BAD, x -> x.grow(200, LEAST));
        town("6: greatest n", BAD, x -> x.grow(200, GREATEST));
        town("6: n named ahead of stale", BAD, x -> x.grow(106, 0));
        town("6: n named ahead of pins", BAD, x -> x.grow(102, 40));
        town("6: n named ahead of the quota", BAD, x -> x.grow(103, 40));
        town("6: doomed", STALE, x -> x.grow(106, 1));
        town("6: an old generation", STALE, x -> x.grow(100, 1));
        town("6: stale named ahead of pins", STALE, x -> x.grow(4, 1));
        town("6: 1 pin", STATE, x -> x.grow(102, 1));
        town("6: pins named ahead of the quota", STATE, x -> x.grow(104, 1));
        town("6: pins named ahead of above 40", STATE, x -> x.grow(102, 39));
        town("6: one above the quota", QUOTA, x -> x.grow(103, 1));
        town("6: quota named ahead of above 40", QUOTA, x -> x.grow(103, 39));
        town("6: 41 in all", FULL, x -> x.grow(200, 36));
        town("6: 41 in all, by 39", FULL, x -> x.grow(107, 39));
        town("6: 40 in all, no free row", FULL, x -> x.grow(200, 35));
        town("6: one longer than the longest free row", FULL, x -> x.grow(200, 13));
        town("6: one more than is free above it, none elsewhere", FULL, x -> x.grow(107, 18));
        town("6: a full region", FULL, x -> x.grow(105, 1));
        behind(Scenes.TOWN.andThen(x -> x.quota(4, 12)), "6: quota named ahead of no free row", QUOTA,
            x -> x.grow(105, 1));
    }

    private static void promise7() {
        town("7: region -1", BAD, x -> x.moves(-1, 5));
        town("7: region 3 of 3", BAD, x -> x.moves(3, 5));
        town("7: region 6", BAD, x -> x.moves(6, 5));
        town("7: least region", BAD, x -> x.moves(LEAST, 5));
        town("7: greatest region", BAD, x -> x.moves(GREATEST, 5));
        town("7: budget -1", BAD, x -> x.moves(0, -1));
        town("7: budget 241", BAD, x -> x.moves(0, 241));
        town("7: least budget", BAD, x -> x.moves(0, LEAST));
        town("7: greatest budget", BAD, x -> x.moves(0, GREATEST));
        town("7: none could lie lower", 0, x -> x.moves(0, 240));
        town("7: none could lie higher", 0, x -> x.moves(1, 240));
        town("7: a full region", 0, x -> x.moves(2, 240));
        behind(Scenes.NOTHING, "7: no region yet", BAD, x -> x.moves(0, 0));
        behind(Scenes.ALL_REGIONS, "7: an empty region", 0, x -> x.moves(5, 240));
        Consumer<RegionHandles> gap = x -> Scenes.script(x, "r 20 0;b 0 3 0;b 0 4 0;f 0;e");
        behind(gap, "7: budget 0", 0, x -> x.moves(0, 0));
        behind(gap, "7: one less than its length", 0, x -> x.moves(0, 3));
    }

    private static void promises8To10() {
        town("8: doomed", VOID, x -> x.write(106, 0, 5));
        town("8: an old generation", VOID, x -> x.write(100, 0, 5));
        town("8: -1", VOID, x -> x.write(-1, 0, 5));
        town("8: least", VOID, x -> x.write(LEAST, 0, 5));
        town("8: greatest", VOID, x -> x.write(GREATEST, 0, 5));
        town("8: cell -1", VOID, x -> x.write(101, -1, 5));
        town("8: cell 6 of 6", VOID, x -> x.write(101, 6, 5));
        town("8: least cell", VOID, x -> x.write(101, LEAST, 5));
        town("8: greatest cell", VOID, x -> x.write(101, GREATEST, 5));
        town("8: a cell that wraps round to the first", VOID, x -> x.write(101, -5, 5));
        town("9: a cell", 77, x -> x.read(101, 0));
        town("9: the last cell", 107, x -> x.read(101, 5));
        town("9: cell 6 of 6", VOID, x -> x.read(101, 6));
        town("9: cell -1", VOID, x -> x.read(101, -1));
        town("9: least cell", VOID, x -> x.read(101, LEAST));
        town("9: greatest cell", VOID, x -> x.read(101, GREATEST));
        town("9: doomed", VOID, x -> x.read(106, 2));
        town("9: an old generation", VOID, x -> x.read(100, 0));
        town("10: live", 77, x -> x.peek(4, 101, 0));
        town("10: doomed by that since which he is in", 66, x -> x.peek(2, 106, 2));
        town("10: doomed by a later one", 66, x -> x.peek(1, 106, 2));
        town("10: doomed by an earlier one", VOID, x -> x.peek(4, 106, 2));
        town("10: cell 3 of 3, doomed", VOID, x -> x.peek(1, 106, 3));
        town("10: cell -1, doomed", VOID, x -> x.peek(1, 106, -1));
        town("10: cell 6 of 6", VOID, x -> x.peek(1, 101, 6));
        town("10: least cell", VOID, x -> x.peek(1, 101, LEAST));
        town("10: greatest cell", VOID, x -> x.peek(1, 101, GREATEST));
        town("10: reader 0 is out", VOID, x -> x.peek(0, 101, 0));
        town("10: reader 5 is out", VOID, x -> x.peek(5, 101, 0));
        town("10: reader -1", VOID, x -> x.peek(-1, 101, 0));
        town("10: reader 6", VOID, x -> x.peek(6, 101, 0));
        town("10: least reader", VOID, x -> x.peek(LEAST, 101, 0));
        town("10: greatest reader", VOID, x -> x.peek(GREATEST, 101, 0));
        town("10: one that is gone", VOID, x -> x.peek(1, 100, 0));
        town("10: none such", VOID, x -> x.peek(1, 206, 0));
        town("10: least handle", VOID, x -> x.peek(1, LEAST, 0));
        town("10: greatest handle", VOID, x -> x.peek(1, GREATEST, 0));
    }

    private static void promises11To13() {
        int[] due = {5, 6, 0, 1, 0, 0};
        for (int i = 0; i < due.length; i++) {
            int what = i;
            town("11: what " + i, due[i], x -> x.of(101, what));
        }
        town("11: what -1", BAD, x -> x.of(101, -1));
        town("11: what 6", BAD, x -> x.of(101, 6));
        town("11: least what", BAD, x -> x.of(101, LEAST));
        town("11: greatest what", BAD, x -> x.of(101, GREATEST));
        town("11: what named ahead of stale", BAD, x -> x.of(106, 6));
        town("11: no tag", NOT, x -> x.of(102, 5));
        town("11: doomed", STALE, x -> x.of(106, 0));
        town("11: doomed, its tag", STALE, x -> x.of(106, 5));
        town("11: an old generation", STALE, x -> x.of(100, 0));
        town("12: doomed, by which epoch", 2, x -> x.slot(6, 3));
        town("12: slot -1", BAD, x -> x.slot(-1, 0));
        town("12: slot 30", BAD, x -> x.slot(30, 0));
        town("12: least slot", BAD, x -> x.slot(LEAST, 0));
        town("12: greatest slot", BAD, x -> x.slot(GREATEST, 0));
        town("12: what -1", BAD, x -> x.slot(0, -1));
        town("12: what 4", BAD, x -> x.slot(0, 4));
        town("12: least what", BAD, x -> x.slot(0, LEAST));
        town("12: greatest what", BAD, x -> x.slot(0, GREATEST));
        town("13: doomed", 6, x -> x.lies(18));
        town("13: cell -1", BAD, x -> x.lies(-1));
        town("13: cell 240", BAD, x -> x.lies(240));
        town("13: least cell", BAD, x -> x.lies(LEAST));
        town("13: greatest cell", BAD, x -> x.lies(GREATEST));
    }

    private static void promises14To16() {
        town("14: tag -1", BAD, x -> x.tag(102, -1));
        town("14: tag 500", BAD, x -> x.tag(102, 500));
        town("14: least tag", BAD, x -> x.tag(102, LEAST));
        town("14: greatest tag", BAD, x -> x.tag(102, GREATEST));
        town("14: tag named ahead of stale", BAD, x -> x.tag(106, 500));
        town("14: doomed", STALE, x -> x.tag(106, 5));
        town("14: an old generation, its own tag", STALE, x -> x.tag(100, 205));
        town("14: stale named ahead of state", STALE, x -> x.tag(106, 0));
        town("14: another has it", STATE, x -> x.tag(102, 205));
        town("14: another has it, the least", STATE, x -> x.tag(200, 0));
        town("14: another has it, the greatest", STATE, x -> x.tag(101, 499));
        town("15: found", 200, x -> x.find(205));
        town("15: tag -1", BAD, x -> x.find(-1));
        town("15: tag 500", BAD, x -> x.find(500));
        town("15: least tag", BAD, x -> x.find(LEAST));
        town("15: greatest tag", BAD, x -> x.find(GREATEST));
        town("15: none has it", NOT, x -> x.find(204));
        town("16: the first", 499, x -> x.tagged(0));
        town("16: the last", 0, x -> x.tagged(2));
        town("16: behind the last", NOT, x -> x.tagged(3));
        town("16: greatest", NOT, x -> x.tagged(GREATEST));
        town("16: -1", BAD, x -> x.tagged(-1));
        town("16: least", BAD, x -> x.tagged(LEAST));
    }

    private static void promises17And18() {
        town("17: owner -1", BAD, x -> x.quota(-1, 240));
        town("17: owner 10", BAD, x -> x.quota(10, 240));
        town("17: least owner", BAD, x -> x.quota(LEAST, 240));
        town("17: greatest owner", BAD, x -> x.quota(GREATEST, 240));
        town("17: n -1", BAD, x -> x.quota(9, -1));
        town("17: n 241", BAD, x -> x.quota(9, 241));
        town("17: least n", BAD, x -> x.quota(9, LEAST));
        town("17: greatest n", BAD, x -> x.quota(9, GREATEST));
        town("17: n named ahead of what is used", BAD, x -> x.quota(3, -1));
        town("17: one below what is used", STATE, x -> x.quota(3, 11));
        town("17: 0, where something is used", STATE, x -> x.quota(0, 0));
        town("17: one below what a doomed one uses", STATE, x -> x.quota(5, 2));
        town("17: what it was", 12, x -> x.quota(3, 12));
        int[] due = {12, 12, 0, 2};
        for (int i = 0; i < due.length; i++) {
            int what = i;
            town("18: what " + i, due[i], x -> x.owner(3, what));
        }
        town("18: owner -1", BAD, x -> x.owner(-1, 0));
        town("18: owner 10", BAD, x -> x.owner(10, 0));
        town("18: least owner", BAD, x -> x.owner(LEAST, 0));
        town("18: greatest owner", BAD, x -> x.owner(GREATEST, 0));
        town("18: what -1", BAD, x -> x.owner(0, -1));
        town("18: what 4", BAD, x -> x.owner(0, 4));
        town("18: least what", BAD, x -> x.owner(0, LEAST));
        town("18: greatest what", BAD, x -> x.owner(0, GREATEST));
    }

    private static void promises19And20() {
        town("19: reader -1", BAD, x -> x.enter(-1));
        town("19: reader 6", BAD, x -> x.enter(6));
        town("19: least reader", BAD, x -> x.enter(LEAST));
        town("19: greatest reader", BAD, x -> x.enter(GREATEST));
        town("19: in since before", STATE, x -> x.enter(1));
        town("19: in since now", STATE, x -> x.enter(4));
        town("20: reader -1", BAD, x -> x.leave(-1));
        town("20: reader 6", BAD, x -> x.leave(6));
        town("20: least reader", BAD, x -> x.leave(LEAST));
        town("20: greatest reader", BAD, x -> x.leave(GREATEST));
        town("20: out", STATE, x -> x.leave(0));
        town("20: out, the last", STATE, x -> x.leave(5));
        behind(Scenes.TOWN.andThen(x -> x.leave(4)), "20: out again", STATE, x -> x.leave(4));
    }

    private static void promises22And23() {
        town("22: where", 23, x -> x.would(0, 17, 0));
        town("22: nowhere", NOT, x -> x.would(0, 18, 0));
        town("22: free cells", 17, x -> x.would(0, 1, 1));
        town("22: longest", 18, x -> x.would(1, 1, 2));
        town("22: rows", 1, x -> x.would(1, 1, 3));
        town("22: region -1", BAD, x -> x.would(-1, 1, 0));
        town("22: region 3 of 3", BAD, x -> x.would(3, 1, 1));
        town("22: region 6", BAD, x -> x.would(6, 1, 2));
        town("22: least region", BAD, x -> x.would(LEAST, 1, 0));
        town("22: greatest region", BAD, x -> x.would(GREATEST, 1, 3));
        town("22: length 0", BAD, x -> x.would(0, 0, 0));
        town("22: length 41", BAD, x -> x.would(0, 41, 0));
        town("22: least length", BAD, x -> x.would(0, LEAST, 0));
        town("22: greatest length", BAD, x -> x.would(0, GREATEST, 0));
        town("22: length named ahead of nowhere", BAD, x -> x.would(2, 41, 0));
        town("22: what -1", BAD, x -> x.would(0, 1, -1));
        town("22: what 4", BAD, x -> x.would(0, 1, 4));
        town("22: least what", BAD, x -> x.would(0, 1, LEAST));
        town("22: greatest what", BAD, x -> x.would(0, 1, GREATEST));
        town("23: there is room", 0, x -> x.least(0, 17));
        town("23: no budget would do", NOT, x -> x.least(0, 18));
        town("23: a full region", NOT, x -> x.least(2, 1));
        town("23: region -1", BAD, x -> x.least(-1, 1));
        town("23: region 3 of 3", BAD, x -> x.least(3, 1));
        town("23: least region", BAD, x -> x.least(LEAST, 1));
        town("23: greatest region", BAD, x -> x.least(GREATEST, 1));
        town("23: length 0", BAD, x -> x.least(0, 0));
        town("23: length 41", BAD, x -> x.least(0, 41));
        town("23: length named ahead of no budget", BAD, x -> x.least(2, 41));
        town("23: least length", BAD, x -> x.least(0, LEAST));
        town("23: greatest length", BAD, x -> x.least(0, GREATEST));
        Consumer<RegionHandles> gaps = x -> Scenes.script(x, "r 20 1;b 0 3 0;b 0 4 0;b 0 2 1;b 0 1 1;f 0;f 2;e");
        behind(gaps, "23: moves in thought alone", 5, x -> x.least(0, 14));
    }

    private static void promises24To26() {
        town("24: how many", 0, x -> x.leaked(-1));
        town("24: none", NOT, x -> x.leaked(0));
        town("24: -2", BAD, x -> x.leaked(-2));
        town("24: least", BAD, x -> x.leaked(LEAST));
        town("24: greatest", NOT, x -> x.leaked(GREATEST));
        town("25: a way of two", 2, x -> x.path(200, 107));
        town("25: none", NOT, x -> x.path(107, 200));
        town("25: doomed", STALE, x -> x.path(107, 106));
        town("25: from a doomed one", STALE, x -> x.path(106, 107));
        town("25: a doomed one to itself", STALE, x -> x.path(106, 106));
        town("25: least", STALE, x -> x.path(LEAST, 200));
        town("25: greatest", STALE, x -> x.path(200, GREATEST));
        town("25: -1", STALE, x -> x.path(-1, -1));
        int[] due = {0, 1, 22};
        for (int i = 0; i < due.length; i++) {
            int what = i;
            town("26: what " + i, due[i], x -> x.epochs(what));
        }
        town("26: what -1", BAD, x -> x.epochs(-1));
        town("26: what 3", BAD, x -> x.epochs(3));
        town("26: least what", BAD, x -> x.epochs(LEAST));
        town("26: greatest what", BAD, x -> x.epochs(GREATEST));
        behind(Scenes.NOTHING, "26: nobody holds", NOT, x -> x.epochs(1));
    }

    private static void promises27And28() {
        town("27: a plan", 2, x -> x.plan(2, 0));
        town("27: no elements", NOT, x -> x.plan(4, 2));
        town("27: its first element", 0, x -> x.plan(2, 2));
        town("27: holder -1", BAD, x -> x.plan(-1, 0));
        town("27: holder 6", BAD, x -> x.plan(6, 0));
        town("27: least holder", BAD, x -> x.plan(LEAST, 0));
        town("27: greatest holder", BAD, x -> x.plan(GREATEST, 0));
        town("27: region -1", BAD, x -> x.plan(2, -1));
        town("27: region 3 of 3", BAD, x -> x.plan(2, 3));
        town("27: least region", BAD, x -> x.plan(2, LEAST));
        town("27: greatest region", BAD, x -> x.plan(2, GREATEST));
        town("27: nothing", NOTHING_THERE, x -> x.plan(5, 0));
        town("27: a handle", ANOTHER_SORT, x -> x.plan(0, 0));
        town("27: a handle that is stale", ANOTHER_SORT, x -> x.plan(1, 0));
        town("27: region named ahead of nothing", BAD, x -> x.plan(5, 3));
        town("27: region named ahead of a handle", BAD, x -> x.plan(0, -1));
        town("28: no items", 0, x -> x.told(4, 200));
        town("28: otherwise", 0, x -> x.told(2, 200));
        town("28: holder -1", BAD, x -> x.told(-1, 200));
        town("28: holder 6", BAD, x -> x.told(6, 200));
        town("28: least holder", BAD, x -> x.told(LEAST, 200));
        town("28: greatest holder", BAD, x -> x.told(GREATEST, 200));
        town("28: holder named ahead of stale", BAD, x -> x.told(6, 106));
        town("28: nothing", NOTHING_THERE, x -> x.told(5, 200));
        town("28: nothing named ahead of stale", NOTHING_THERE, x -> x.told(5, 106));
        town("28: a handle", ANOTHER_SORT, x -> x.told(0, 200));
        town("28: a handle named ahead of stale", ANOTHER_SORT, x -> x.told(0, 106));
        town("28: doomed", STALE, x -> x.told(2, 106));
        town("28: an old generation, no items", STALE, x -> x.told(4, 100));
        town("28: least handle", STALE, x -> x.told(2, LEAST));
        town("28: greatest handle", STALE, x -> x.told(2, GREATEST));
    }

    private static void promises29To32() {
        town("29: -1", BAD, x -> x.feed(-1));
        town("29: 256", BAD, x -> x.feed(256));
        town("29: least", BAD, x -> x.feed(LEAST));
        town("29: greatest", BAD, x -> x.feed(GREATEST));
        behind(Scenes.FULL_TAPE, "29: 120 stand", FULL, x -> x.feed('e'));
        behind(Scenes.FULL_TAPE, "29: 120 stand, 0", FULL, x -> x.feed(0));
        behind(Scenes.FULL_TAPE, "29: -1 named ahead of full", BAD, x -> x.feed(-1));
        behind(Scenes.FULL_TAPE, "29: 256 named ahead of full", BAD, x -> x.feed(256));
        behind(Scenes.NOTHING, "32: no image", STATE, x -> x.back());
        behind(Scenes.ALL_SLOTS, "32: no image, blocks", STATE, x -> x.back());
        behind(Scenes.FULL_TAPE, "32: no image, a tape", STATE, x -> x.back());
    }

    private static void promise33() {
        town("33: holder -1", BAD, x -> x.hold(-1, 200));
        town("33: holder 6", BAD, x -> x.hold(6, 200));
        town("33: least holder", BAD, x -> x.hold(LEAST, 200));
        town("33: greatest holder", BAD, x -> x.hold(GREATEST, 200));
        town("33: holder -1, nothing", BAD, x -> x.hold(-1, -1));
        town("33: holder 6, nothing", BAD, x -> x.hold(6, -1));
        town("33: holder named ahead of stale", BAD, x -> x.hold(6, 106));
        town("33: doomed", STALE, x -> x.hold(0, 106));
        town("33: doomed, though it is held", STALE, x -> x.hold(1, 106));
        town("33: an old generation, ahead of a row", STALE, x -> x.hold(2, 100));
        town("33: -2", STALE, x -> x.hold(5, -2));
        town("33: least handle", STALE, x -> x.hold(0, LEAST));
        town("33: greatest handle", STALE, x -> x.hold(0, GREATEST));
        town("33: the same again", 1, x -> x.hold(0, 200));
        town("33: nothing again", 1, x -> x.hold(5, -1));
    }

    private static void promises34And35() {
        town("34: holder -1", BAD, x -> x.row(-1, 1));
        town("34: holder 6", BAD, x -> x.row(6, 1));
        town("34: least holder", BAD, x -> x.row(LEAST, 1));
        town("34: greatest holder", BAD, x -> x.row(GREATEST, 1));
        town("34: holder named ahead of a size below 0", BAD, x -> x.row(6, -1));
        town("34: 61, ahead of a row", BAD, x -> x.row(2, 61));
        town("34: 61, ahead of a handle", BAD, x -> x.row(0, 61));
        town("34: 61, ahead of nothing", BAD, x -> x.row(5, 61));
        town("34: greatest size", BAD, x -> x.row(2, GREATEST));
        town("34: -1, ahead of a row", SIZE_BELOW_0, x -> x.row(2, -1));
        town("34: -1, ahead of a handle", SIZE_BELOW_0, x -> x.row(0, -1));
        town("34: -1, ahead of nothing", SIZE_BELOW_0, x -> x.row(5, -1));
        town("34: least size", SIZE_BELOW_0, x -> x.row(2, LEAST));
        town("35: holder -1", VOID, x -> x.put(-1, 0, 7));
        town("35: holder 6", VOID, x -> x.put(6, 0, 7));
        town("35: least holder", VOID, x -> x.put(LEAST, 0, 7));
        town("35: greatest holder", VOID, x -> x.put(GREATEST, 0, 7));
        town("35: nothing", VOID, x -> x.put(5, 0, 7));
        town("35: a handle", VOID, x -> x.put(0, 0, 7));
        town("35: place -1, the last of the row ahead", VOID, x -> x.put(4, -1, 7));
        town("35: place 0 of none", VOID, x -> x.put(4, 0, 7));
        town("35: place 4 of 4", VOID, x -> x.put(2, 4, 7));
        town("35: place 60 of 4, the next holder's first", VOID, x -> x.put(2, 60, 7));
        town("35: place 60 of 60", VOID, x -> x.put(3, 60, 7));
        town("35: place -1", VOID, x -> x.put(3, -1, 7));
        town("35: least place", VOID, x -> x.put(3, LEAST, 7));
        town("35: greatest place", VOID, x -> x.put(3, GREATEST, 7));
        town("35: what it was", 9, x -> x.put(3, 59, 9));
    }

    private static void promises36And37() {
        int[] due = {2, 5, ANOTHER_SORT, 205};
        for (int i = 0; i < 4; i++) {
            int as = i;
            town("36: as " + i, due[i], x -> x.tells(0, as));
            town("36: stale, as " + i, i == 0 ? 1 : ANOTHER_SORT, x -> x.tells(1, as));
            town("36: a row, as " + i, ANOTHER_SORT, x -> x.tells(2, as));
            town("36: a row of none, as " + i, ANOTHER_SORT, x -> x.tells(4, as));
            town("36: nothing, as " + i, NOTHING_THERE, x -> x.tells(5, as));
        }
        town("36: holder -1", BAD, x -> x.tells(-1, 0));
        town("36: holder 6", BAD, x -> x.tells(6, 0));
        town("36: least holder", BAD, x -> x.tells(LEAST, 0));
        town("36: greatest holder", BAD, x -> x.tells(GREATEST, 0));
        town("36: as -1", BAD, x -> x.tells(0, -1));
        town("36: as 4", BAD, x -> x.tells(0, 4));
        town("36: least as", BAD, x -> x.tells(0, LEAST));
        town("36: greatest as", BAD, x -> x.tells(0, GREATEST));
        town("36: as named ahead of nothing", BAD, x -> x.tells(5, 4));
        town("36: as named ahead of a row", BAD, x -> x.tells(2, -1));
        int[] many = {3, 7, 1, 3, 3, 47, 3, 5};
        for (int i = 0; i < many.length; i++) {
            int what = i;
            town("37: what " + i, many[i], x -> x.count(what));
        }
        town("37: what -1", BAD, x -> x.count(-1));
        town("37: what 8", BAD, x -> x.count(8));
        town("37: least what", BAD, x -> x.count(LEAST));
        town("37: greatest what", BAD, x -> x.count(GREATEST));
    }
}
