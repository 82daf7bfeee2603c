/** Promises 22 to 28: in thought. */
public final class InThoughtTest {
    private static final Check check = new Check();

    private static void due(String call, long got, long want) {
        check.due(call, got, want);
    }

    public static void main(String[] args) {
        promise22();
        promise22ByRoomAlone();
        promise23();
        promise23FromAbove();
        promise23ByTheWay();
        promise24();
        promise25();
        promise26();
        promise27();
        promise27Refused();
        promise28();
        check.end("InThoughtTest");
    }

    private static void promise22() {
        for (int way = 0; way < 2; way++) {
            RegionHandles x = new RegionHandles();
            x.region(8, 0);
            x.region(20, way);
            x.region(8, 0);
            due("22: empty", x.would(1, 40, 0), -2);
            due("22: all", x.would(1, 20, 0), 8);
            due("22: one row", x.would(1, 20, 3), 1);
            for (int i = 0; i < 4; i++) x.block(1, 3, 0);
            x.free(101);
            due("22: doomed is not free", x.would(1, 1, 1), 8);
            x.advance();
            due("22: first row", x.would(1, 3, 0), way == 0 ? 11 : 22);
            due("22: its end", x.would(1, 2, 0), way == 0 ? 11 : 23);
            due("22: longer", x.would(1, 4, 0), way == 0 ? 20 : 12);
            due("22: longest", x.would(1, 8, 0), way == 0 ? 20 : 8);
            due("22: nowhere", x.would(1, 9, 0), -2);
            due("22: free cells", x.would(1, 1, 1), 11);
            due("22: longest row", x.would(1, 1, 2), 8);
            due("22: rows", x.would(1, 1, 3), 2);
            due("22: nothing changes", x.would(1, 3, 0), way == 0 ? 11 : 22);
            x.block(1, 8, 0);
            x.block(1, 3, 0);
            due("22: full", x.would(1, 1, 0), -2);
            due("22: none free", x.would(1, 1, 1), 0);
            due("22: no row", x.would(1, 1, 2), 0);
            due("22: no rows", x.would(1, 1, 3), 0);
        }
    }

    private static void promise22ByRoomAlone() {
        RegionHandles x = new RegionHandles();
        x.region(20, 0);
        due("22: region -1", x.would(-1, 1, 0), -1);
        due("22: region 1", x.would(1, 1, 0), -1);
        due("22: what -1", x.would(0, 1, -1), -1);
        due("22: what 4", x.would(0, 1, 4), -1);
        due("22: length 0", x.would(0, 0, 0), -1);
        due("22: length 41", x.would(0, 41, 0), -1);
        due("22: length does not matter", x.would(0, 0, 1), 20);
        due("22: length does not matter", x.would(0, 99, 2), 20);
        due("22: length does not matter", x.would(0, -7, 3), 1);
    }

    private static void promise23() {
        RegionHandles x = new RegionHandles();
        x.region(24, 0);
        for (int i = 0; i < 6; i++) x.block(0, 3, 0);
        x.write(101, 0, 5);
        x.free(100);
        x.free(102);
        x.free(104);
        x.advance();
        due("23: region -1", x.least(-1, 1), -1);
        due("23: region 1", x.least(1, 1), -1);
        due("23: length 0", x.least(0, 0), -1);
        due("23: length 41", x.least(0, 41), -1);
        due("23: there is room", x.least(0, 6), 0);
        due("23: two must go", x.least(0, 9), 6);
        due("23: all must go", x.least(0, 10), 9);
        due("23: all of the room", x.least(0, 15), 9);
        due("23: too long", x.least(0, 16), -2);
        due("23: nothing changed", x.of(101, 0), 3);
        x.block(0, 5, 0);
        due("23: the first will do", x.least(0, 4), 3);
        due("23: so it is", x.moves(0, 3), 3);
        due("23: there", x.would(0, 4, 0), 3);
        due("23: its content", x.read(101, 0), 5);
        x.pin(103, 1);
        due("23: pinned", x.least(0, 7), -2);
        x.pin(103, -1);
        due("23: not pinned", x.least(0, 7), 3);
    }

    private static void promise23FromAbove() {
        RegionHandles x = new RegionHandles();
        x.region(8, 0);
        x.region(16, 1);
        for (int i = 0; i < 4; i++) x.block(1, 4, 0);
        x.free(100);
        x.free(102);
        x.advance();
        due("23: from above", x.least(1, 5), 4);
        due("23: more", x.least(1, 8), 4);
        due("23: all", x.least(1, 9), -2);
        x.free(103);
        due("23: doomed", x.least(1, 9), -2);
        x.advance();
        due("23: free already", x.least(1, 8), 0);
        due("23: one goes", x.least(1, 12), 4);
        due("23: no more", x.least(1, 13), -2);
    }

    /** One block lies low and one high; which goes first, and so the budget, is by the way. */
    private static void promise23ByTheWay() {
        for (int way = 0; way < 2; way++) {
            RegionHandles x = new RegionHandles();
            x.region(12, way);
            int[] lengths = way == 0 ? new int[] {2, 1, 3, 4} : new int[] {2, 4, 3, 1};
            for (int length : lengths) x.block(0, length, 0);
            x.free(100);
            x.free(102);
            x.advance();
            due("23: low gap", x.lies(1), 100);
            due("23: high gap", x.lies(10), 100);
            due("23: the first to go", x.least(0, 5), way == 0 ? 1 : 4);
            due("23: both", x.least(0, 7), 5);
        }
    }

    private static void promise24() {
        RegionHandles x = new RegionHandles();
        x.region(60, 0);
        due("24: none", x.leaked(-1), 0);
        due("24: none", x.leaked(0), -2);
        for (int i = 0; i < 6; i++) x.block(0, 3, 0);
        due("24: below -1", x.leaked(-2), -1);
        due("24: all", x.leaked(-1), 6);
        due("24: the last", x.leaked(5), 5);
        due("24: no more", x.leaked(6), -2);
        x.pin(105, 1);
        x.write(105, 2, 103);
        x.write(103, 0, 101);
        x.write(101, 1, 103);
        x.write(102, 0, 100);
        x.write(100, 0, 102);
        due("24: from a pin", x.leaked(-1), 3);
        due("24: those that hold one another", x.leaked(0), 0);
        due("24: those that hold one another", x.leaked(1), 2);
        due("24: whom none holds", x.leaked(2), 4);
        x.tag(102, 0);
        due("24: from a tag", x.leaked(-1), 1);
        x.free(103);
        due("24: by a freed one none is reached", x.leaked(-1), 2);
        due("24: a freed one is not leaked", x.leaked(0), 1);
        due("24: nor behind", x.leaked(1), 4);
        x.advance();
        x.block(0, 3, 0);
        due("24: an old handle does not reach", x.leaked(-1), 3);
        x.write(105, 0, 203);
        due("24: the new one does", x.leaked(-1), 2);
        x.write(105, 1, -101);
        x.write(105, 2, 4);
        due("24: no handles", x.leaked(-1), 2);
    }

    private static void promise25() {
        RegionHandles x = new RegionHandles();
        x.region(60, 0);
        for (int i = 0; i < 6; i++) x.block(0, 3, 0);
        due("25: to itself", x.path(102, 102), 0);
        due("25: none", x.path(102, 103), -2);
        x.write(100, 0, 101);
        x.write(101, 0, 102);
        x.write(102, 0, 103);
        x.write(103, 2, 104);
        due("25: 1", x.path(100, 101), 1);
        due("25: 4", x.path(100, 104), 4);
        due("25: not back", x.path(104, 100), -2);
        x.write(100, 2, 103);
        due("25: shorter", x.path(100, 104), 2);
        x.write(104, 1, 100);
        due("25: round", x.path(103, 102), 4);
        due("25: to itself still", x.path(100, 100), 0);
        due("25: stale first", x.path(99, 100), -4);
        due("25: stale second", x.path(100, 106), -4);
        due("25: stale, one and the same", x.path(7, 7), -4);
        x.free(103);
        due("25: through a doomed one", x.path(100, 104), -2);
        due("25: to a doomed one", x.path(100, 103), -4);
    }

    private static void promise26() {
        RegionHandles x = new RegionHandles();
        x.region(60, 0);
        for (int i = 0; i < 6; i++) x.block(0, 3, 0);
        due("26: what -1", x.epochs(-1), -1);
        due("26: what 3", x.epochs(3), -1);
        due("26: none", x.epochs(0), 0);
        due("26: nobody holds", x.epochs(1), -2);
        x.free(100);
        due("26: one", x.epochs(0), 1);
        x.enter(4);
        due("26: held", x.epochs(0), 0);
        due("26: by him", x.epochs(1), 4);
        x.enter(2);
        due("26: the least number", x.epochs(1), 2);
        due("26: bits", x.epochs(2), 20);
        x.advance();
        x.enter(0);
        due("26: the earliest", x.epochs(1), 2);
        x.leave(2);
        due("26: the other", x.epochs(1), 4);
        x.free(101);
        x.leave(4);
        due("26: since a later one", x.epochs(0), 1);
        due("26: the last who is in", x.epochs(1), 0);
        due("26: bits", x.epochs(2), 1);
        x.leave(0);
        due("26: all", x.epochs(0), 2);
        due("26: as told", x.advance(), 2);
    }

    private static void rowOf(RegionHandles x, int holder, int... items) {
        x.row(holder, items.length);
        for (int i = 0; i < items.length; i++) x.put(holder, i, items[i]);
    }

    private static void promise27() {
        RegionHandles x = new RegionHandles();
        x.region(8, 0);
        x.region(20, 1);
        x.block(1, 10, 0);
        x.quota(0, 10);
        rowOf(x, 3);
        due("27: no elements", x.plan(3, 1), -2);
        rowOf(x, 3, 10);
        due("27: all that is free", x.plan(3, 1), -2);
        due("27: nothing changed", x.would(1, 1, 1), 10);
        due("27: more than is free", x.plan(3, 0), 0);
        rowOf(x, 3, 11);
        due("27: more than is free", x.plan(3, 1), 0);
        rowOf(x, 3, 4, 4, 3);
        due("27: the third", x.plan(3, 1), 2);
        rowOf(x, 3, 4, 4, -1, 3, 1, 2, 1);
        due("27: one gone, its cells are free at once", x.plan(3, 1), 6);
        rowOf(x, 3, 4, 4, -2, 6);
        due("27: cells together", x.plan(3, 1), -2);
        rowOf(x, 3, 4, 4, -1, 6);
        due("27: not together", x.plan(3, 1), 3);
        rowOf(x, 3, 1, -1, -1);
        due("27: gone already", x.plan(3, 1), 2);
        rowOf(x, 3, 1, -1, 1, -2, -1);
        due("27: the second, then the first again", x.plan(3, 1), 4);
        rowOf(x, 3, -1, 1);
        due("27: not placed yet", x.plan(3, 1), 0);
        rowOf(x, 3, 1, -2, 1);
        due("27: not placed yet", x.plan(3, 1), 1);
        rowOf(x, 3, 1, 0);
        due("27: 0", x.plan(3, 1), 1);
        rowOf(x, 3, 1, 41);
        due("27: 41", x.plan(3, 1), 1);
        rowOf(x, 3, 1, Integer.MIN_VALUE);
        due("27: least int", x.plan(3, 1), 1);
        rowOf(x, 3, 1, Integer.MAX_VALUE);
        due("27: greatest int", x.plan(3, 1), 1);
        x.free(100);
        due("27: doomed cells are not free", x.plan(3, 1), 1);
        rowOf(x, 3, 11);
        due("27: doomed cells are not free", x.plan(3, 1), 0);
    }

    private static void promise27Refused() {
        RegionHandles x = new RegionHandles();
        x.region(120, 0);
        x.region(120, 0);
        x.block(0, 1, 0);
        due("27: holder -1", x.plan(-1, 0), -1);
        due("27: holder 6", x.plan(6, 0), -1);
        due("27: region 2", x.plan(0, 2), -1);
        due("27: region -1", x.plan(0, -1), -1);
        due("27: nothing", x.plan(0, 0), -11);
        x.hold(0, 100);
        due("27: a handle", x.plan(0, 0), -12);
        due("27: bad before that", x.plan(0, 2), -1);
        for (int i = 0; i < 29; i++) x.block(1, 1, 0);
        x.row(1, 60);
        for (int i = 0; i < 60; i++) x.put(1, i, 1);
        due("27: no slots, 60 blocks", x.plan(1, 0), -2);
        x.put(1, 0, 40);
        x.put(1, 1, 40);
        due("27: by room", x.plan(1, 0), 41);
    }

    private static void promise28() {
        RegionHandles x = new RegionHandles();
        x.region(20, 0);
        x.block(0, 3, 0);
        x.write(100, 0, 7);
        x.write(100, 2, -9);
        due("28: holder -1", x.told(-1, 100), -1);
        due("28: holder 6", x.told(6, 100), -1);
        due("28: nothing", x.told(5, 100), -11);
        due("28: nothing before stale", x.told(5, 999), -11);
        x.hold(5, 100);
        due("28: a handle", x.told(5, 100), -12);
        due("28: that before stale", x.told(5, 999), -12);
        rowOf(x, 5);
        due("28: stale", x.told(5, 101), -4);
        due("28: no items", x.told(5, 100), 0);
        rowOf(x, 5, 7, 0);
        due("28: the block has more", x.told(5, 100), 2);
        rowOf(x, 5, 7, 0, -9);
        due("28: no more", x.told(5, 100), -2);
        rowOf(x, 5, 7, 1, -9);
        due("28: otherwise", x.told(5, 100), 1);
        rowOf(x, 5, 8, 1, -9);
        due("28: the first that is", x.told(5, 100), 0);
        rowOf(x, 5, 7, 0, -9, 0, 0);
        due("28: not there", x.told(5, 100), 3);
        rowOf(x, 5, 7, 0, 9, 0, 0);
        due("28: otherwise ahead of that", x.told(5, 100), 2);
    }
}
