/** Promises 14 to 21: tags, owners, readers. */
public final class TagsOwnersReadersTest {
    private static final Check check = new Check();

    private static void due(String call, long got, long want) {
        check.due(call, got, want);
    }

    public static void main(String[] args) {
        promise14();
        promise15();
        promise16();
        promise17();
        promise18();
        promise19();
        promise20();
        promise21();
        check.end("TagsOwnersReadersTest");
    }

    private static RegionHandles withBlocks(int many, int length) {
        RegionHandles x = new RegionHandles();
        x.region(120, 0);
        for (int i = 0; i < many; i++) x.block(0, length, i % 10);
        return x;
    }

    private static void promise14() {
        RegionHandles x = withBlocks(3, 2);
        due("14: tag -1", x.tag(100, -1), -1);
        due("14: tag 500", x.tag(100, 500), -1);
        due("14: bad before stale", x.tag(999, 500), -1);
        due("14: stale", x.tag(103, 5), -4);
        due("14: least", x.tag(100, 0), 1);
        due("14: greatest", x.tag(101, 499), 2);
        due("14: another has it", x.tag(102, 499), -5);
        due("14: stale before that", x.tag(103, 499), -4);
        due("14: the same again", x.tag(100, 0), 2);
        due("14: which is last now", x.tagged(1), 0);
        due("14: another tag, the old one goes", x.tag(100, 7), 2);
        due("14: the old one is given to another", x.tag(102, 0), 3);
        x.free(101);
        due("14: one of a freed block", x.tag(102, 499), 2);
        due("14: its old one is gone", x.find(0), -2);
    }

    private static void promise15() {
        RegionHandles x = withBlocks(2, 2);
        due("15: none", x.find(3), -2);
        x.tag(101, 3);
        due("15: found", x.find(3), 101);
        due("15: another", x.find(103), -2);
        due("15: -1", x.find(-1), -1);
        due("15: 500", x.find(500), -1);
        due("15: 499", x.find(499), -2);
        x.tag(101, 4);
        due("15: no more", x.find(3), -2);
        due("15: the new one", x.find(4), 101);
        x.free(101);
        due("15: freed", x.find(4), -2);
    }

    private static void promise16() {
        RegionHandles x = withBlocks(4, 2);
        due("16: none", x.tagged(0), -2);
        due("16: below 0", x.tagged(-1), -1);
        x.tag(103, 400);
        x.tag(100, 30);
        x.tag(102, 2);
        x.tag(101, 1);
        due("16: 0", x.tagged(0), 400);
        due("16: 1", x.tagged(1), 30);
        due("16: 2", x.tagged(2), 2);
        due("16: 3", x.tagged(3), 1);
        due("16: 4", x.tagged(4), -2);
        due("16: greatest", x.tagged(Integer.MAX_VALUE), -2);
        x.tag(100, 31);
        due("16: anew is last", x.tagged(3), 31);
        due("16: the others move up", x.tagged(1), 2);
        x.free(102);
        due("16: freed", x.tagged(1), 1);
        due("16: the last", x.tagged(2), 31);
        due("16: no more", x.tagged(3), -2);
    }

    private static void promise17() {
        RegionHandles x = withBlocks(1, 5);
        due("17: owner -1", x.quota(-1, 5), -1);
        due("17: owner 10", x.quota(10, 5), -1);
        due("17: n -1", x.quota(0, -1), -1);
        due("17: n 241", x.quota(0, 241), -1);
        due("17: used is above", x.quota(0, 4), -5);
        due("17: used at most", x.quota(0, 5), 240);
        due("17: what it was", x.quota(0, 240), 5);
        due("17: 0", x.quota(1, 0), 240);
        due("17: none can be", x.block(0, 1, 1), -6);
        x.free(100);
        due("17: doomed ones are used", x.quota(0, 4), -5);
        x.advance();
        due("17: gone", x.quota(0, 0), 240);
    }

    private static void promise18() {
        RegionHandles x = withBlocks(12, 3);
        due("18: owner -1", x.owner(-1, 0), -1);
        due("18: owner 10", x.owner(10, 0), -1);
        due("18: what -1", x.owner(0, -1), -1);
        due("18: what 4", x.owner(0, 4), -1);
        due("18: used", x.owner(0, 0), 6);
        due("18: live", x.owner(0, 3), 2);
        due("18: share", x.owner(0, 2), 6);
        x.quota(0, 77);
        due("18: quota", x.owner(0, 1), 77);
        x.tag(100, 1);
        due("18: share, a tag less", x.owner(0, 2), 3);
        x.free(110);
        due("18: used with doomed ones", x.owner(0, 0), 6);
        due("18: live ones alone", x.owner(0, 3), 1);
        due("18: share of live ones alone", x.owner(0, 2), 0);
        x.write(100, 0, 105);
        due("18: reached", x.owner(5, 2), 0);
        due("18: another's", x.owner(6, 2), 3);
        x.advance();
        due("18: used", x.owner(0, 0), 3);
        x.grow(100, 4);
        due("18: grown", x.owner(0, 0), 7);
    }

    private static void promise19() {
        RegionHandles x = new RegionHandles();
        due("19: -1", x.enter(-1), -1);
        due("19: 6", x.enter(6), -1);
        due("19: in", x.enter(0), 0);
        due("19: again", x.enter(0), -5);
        x.advance();
        due("19: later", x.enter(5), 1);
        x.advance();
        due("19: again, since before", x.enter(5), -5);
        due("19: still since then", x.leave(5), 1);
        due("19: anew", x.enter(5), 2);
    }

    private static void promise20() {
        RegionHandles x = new RegionHandles();
        due("20: -1", x.leave(-1), -1);
        due("20: 6", x.leave(6), -1);
        due("20: out", x.leave(3), -5);
        x.advance();
        x.enter(3);
        x.advance();
        due("20: since", x.leave(3), 1);
        due("20: again", x.leave(3), -5);
        due("20: none is in", x.epochs(2), 0);
    }

    private static void promise21() {
        RegionHandles x = withBlocks(4, 2);
        due("21: none", x.advance(), 0);
        due("21: epoch", x.count(4), 1);
        x.free(100);
        x.free(101);
        due("21: two", x.advance(), 2);
        due("21: free again", x.lies(0), 100);
        x.free(102);
        x.enter(0);
        due("21: in since that epoch", x.advance(), 0);
        x.leave(0);
        x.enter(0);
        due("21: in since a later one", x.advance(), 1);
        x.enter(1);
        x.leave(0);
        x.advance();
        x.free(103);
        due("21: in since an earlier one", x.advance(), 0);
        x.enter(2);
        x.leave(1);
        due("21: out", x.advance(), 1);
        due("21: the live stay", x.count(2), 0);
        x.block(0, 2, 0);
        due("21: live ones stay", x.advance(), 0);
        due("21: live", x.count(1), 1);
    }
}
