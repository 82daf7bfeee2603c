import java.util.function.Consumer;

/** Ways of calls to states from which several tests set out; none has more than 130 calls. */
final class Scenes {
    static final Consumer<RegionHandles> NOTHING = x -> { };
    static final Consumer<RegionHandles> TOWN = Scenes::town;
    static final Consumer<RegionHandles> ALL_SLOTS = Scenes::allSlots;
    static final Consumer<RegionHandles> ALL_REGIONS = Scenes::allRegions;
    static final Consumer<RegionHandles> ALL_CELLS = Scenes::allCells;
    static final Consumer<RegionHandles> FULL_TAPE = Scenes::fullTape;

    private Scenes() {
    }

    /**
     * Something of everything. Region 0 (way 0, from 0): 200 at 0, tag 205; 101 at 5, tag 0; 102 at 11, 1 pin; 106
     * at 18, doomed by 2; 107 at 21. Region 1 (way 1, from 40): 103 at 62, tag 499; 104 at 58, 9 pins. Region 2 (way
     * 0, from 70) is full of 105. Readers 1 and 2 are in since 1 and 2, 4 since 3, the epoch; owner 3 has used 12 of
     * 12, owner 7 has a quota of 0. Holder 0 has 200, 1 has 106, 2 a row of 4, 3 one of 60, 4 one of 0, 5 nothing.
     * An image is kept, from which the rest has gone on; the tape has "e;e".
     */
    static void town(RegionHandles x) {
        x.region(40, 0);
        x.region(30, 1);
        x.region(12, 0);
        x.block(0, 5, 0);
        x.free(100);
        x.advance();
        x.block(0, 5, 0);
        x.block(0, 6, 1);
        x.block(0, 7, 2);
        x.block(1, 8, 3);
        x.block(1, 4, 3);
        x.block(2, 12, 4);
        x.block(0, 3, 5);
        x.block(0, 2, 6);
        x.tag(103, 499);
        x.tag(200, 205);
        x.pin(102, 1);
        for (int n = 0; n < 9; n++) x.pin(104, 1);
        x.write(200, 0, 101);
        x.write(101, 5, 107);
        x.write(107, 0, 106);
        x.write(102, 6, 105);
        x.write(106, 2, 66);
        x.quota(3, 12);
        x.quota(7, 0);
        x.enter(1);
        x.advance();
        x.hold(1, 106);
        x.free(106);
        x.enter(2);
        x.advance();
        x.image();
        x.tag(101, 0);
        x.write(101, 0, 77);
        x.enter(4);
        x.hold(0, 200);
        row(x, 2, 5, -1, 40, 0);
        x.row(3, 60);
        x.put(3, 59, 9);
        x.row(4, 0);
        feed(x, "e;e");
    }

    /** Thirty blocks of one cell in a region of forty. */
    static void allSlots(RegionHandles x) {
        x.region(40, 0);
        for (int i = 0; i < 30; i++) x.block(0, 1, i % 10);
    }

    /** Six regions of eight cells. */
    static void allRegions(RegionHandles x) {
        for (int i = 0; i < 6; i++) x.region(8, i % 2);
    }

    /** Two regions and all of the memory's cells, in six blocks of owner 0. */
    static void allCells(RegionHandles x) {
        x.region(120, 0);
        x.region(120, 1);
        for (int i = 0; i < 6; i++) x.block(i / 3, 40, 0);
    }

    static void fullTape(RegionHandles x) {
        x.region(8, 0);
        for (int i = 0; i < 120; i++) x.feed(i % 2 == 0 ? 'e' : ';');
    }

    static void row(RegionHandles x, int holder, int... items) {
        x.row(holder, items.length);
        for (int i = 0; i < items.length; i++) x.put(holder, i, items[i]);
    }

    static void feed(RegionHandles x, String text) {
        for (int i = 0; i < text.length(); i++) x.feed(text.charAt(i));
    }

    static int script(RegionHandles x, String text) {
        feed(x, text);
        return x.script();
    }
}
