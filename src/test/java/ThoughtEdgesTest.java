/**
 * The edges that the document names under 2 of its terms and under promises 22 to 28: in thought. What is refused
 * beyond them stands in RefusedTest.
 */
public final class ThoughtEdgesTest {
    private static final Check check = new Check();

    private static void due(String call, long got, long want) {
        check.due(call, got, want);
    }

    public static void main(String[] args) {
        promise22Lengths();
        promise22Rows();
        promise22EmptyAndFull();
        promise22AsItIsDone();
        promise23Budgets();
        promise23AsItIsDone();
        promise23Nothing();
        promise23All();
        promise24NoneAndAll();
        promise24Cells();
        promise24FromWhom();
        promise24Long();
        promise25();
        promise25Stale();
        promise26Freeable();
        promise26Holds();
        promise27Lengths();
        promise27Room();
        promise27Gone();
        promise27Rows();
        promise27ByRoomAlone();
        promise28();
        promise28Longest();
        check.end("ThoughtEdgesTest");
    }

    private static RegionHandles by(String text) {
        RegionHandles x = new RegionHandles();
        due("script of \"" + text + "\"", Scenes.script(x, text), text.split(";").length);
        return x;
    }

    /** What 0: length 1 .. 40; "by 1 .. 3 the length does not matter". */
    private static void promise22Lengths() {
        RegionHandles x = by("r 45 0;r 45 1");
        due("22: 1", x.would(0, 1, 0), 0);
        due("22: 40", x.would(0, 40, 0), 0);
        due("22: 1, from above", x.would(1, 1, 0), 89);
        due("22: 40, from above", x.would(1, 40, 0), 50);
        due("22: 0", x.would(0, 0, 0), -1);
        due("22: 41, though there is room", x.would(0, 41, 0), -1);
        int[] lengths = {Integer.MIN_VALUE, -1, 0, 1, 40, 41, Integer.MAX_VALUE};
        int[] due = {0, 45, 45, 1};
        for (int length : lengths) {
            for (int what = 1; what < 4; what++) due("22: length " + length, x.would(1, length, what), due[what]);
        }
    }

    /** "free CELLS of a REGION, the longest free row, how many rows". */
    private static void promise22Rows() {
        String blocks = ";b 0 1 0;b 0 1 0;b 0 2 0;b 0 1 0;b 0 3 0;b 0 1 0";
        RegionHandles x = by("r 12 0" + blocks + ";f 0;f 2;f 4;e");
        int[] due = {4, 9, 3, 4};
        for (int what = 1; what < 4; what++) due("22: what " + what, x.would(0, 1, what), due[what]);
        due("22: as long as the longest", x.would(0, 3, 0), 5);
        due("22: one longer", x.would(0, 4, 0), -2);
        x.free(105);
        due("22: doomed is not free", x.would(0, 1, 1), 9);
        x.advance();
        due("22: rows come together", x.would(0, 1, 3), 3);
        due("22: the longest", x.would(0, 1, 2), 7);
        due("22: as long as that", x.would(0, 7, 0), 5);
        due("22: one longer", x.would(0, 8, 0), -2);
    }

    private static void promise22EmptyAndFull() {
        RegionHandles x = by("r 8 0;r 8 1;r 8 0;b 1 8 0");
        int[] empty = {0, 8, 8, 1};
        for (int what = 1; what < 4; what++) {
            due("22: empty, what " + what, x.would(0, 1, what), empty[what]);
            due("22: full, what " + what, x.would(1, 1, what), 0);
            due("22: empty behind it, what " + what, x.would(2, 1, what), empty[what]);
        }
        due("22: a full one, nowhere", x.would(1, 1, 0), -2);
        due("22: not across the end", x.would(0, 9, 0), -2);
        due("22: no rows of two regions", x.would(2, 8, 0), 16);
        x.free(100);
        x.advance();
        due("22: empty again", x.would(1, 8, 0), 8);
        due("22: each row ends with its region", x.would(1, 9, 0), -2);
    }

    /** "where a BLOCK would be placed" is where it then is. */
    private static void promise22AsItIsDone() {
        for (int way = 0; way < 2; way++) {
            for (int length = 1; length < 10; length++) {
                RegionHandles x = by("r 30 " + way + ";b 0 3 0;b 0 4 0;b 0 5 0;b 0 6 0;f 0;f 2;e");
                int place = x.would(0, length, 0);
                due("22: " + length + " by way " + way, x.of(x.block(0, length, 0), 0), place);
            }
        }
    }

    /** "LEAST budget (0 .. 240) of a REGION and a length". */
    private static void promise23Budgets() {
        for (int way = 0; way < 2; way++) {
            // Rows of 2, 3 and 4 free cells, with blocks of 3, 4 and 5 behind each.
            String text = "r 24 " + way + ";b 0 2 0;b 0 3 0;b 0 3 0;b 0 4 0;b 0 4 0;b 0 5 0;f 0;f 2;f 4;e";
            int[] least = {0, 0, 0, 0, 3, 7, 7, 7, 7, 12, 12, 12};
            for (int length = 1; length < 13; length++) {
                due("23: length " + length + " by way " + way, by(text).least(0, length), least[length - 1]);
            }
            due("23: one more than is free", by(text).least(0, 13), -2);
            due("23: 40", by(text).least(0, 40), -2);
        }
        RegionHandles y = new RegionHandles();
        y.region(120, 0);
        for (int length : new int[] {1, 40, 40, 37, 1}) y.block(0, length, 0);
        y.free(100);
        y.free(104);
        y.advance();
        due("23: two cells are free behind the last", y.least(0, 2), 0);
        due("23: three, all must go", y.least(0, 3), 117);
        due("23: four", y.least(0, 4), -2);
    }

    /** The least budget does, one less does not; for each length, by either way. */
    private static void promise23AsItIsDone() {
        for (int way = 0; way < 2; way++) {
            String text = "r 40 " + way + ";b 0 2 0;b 0 3 0;b 0 1 0;b 0 5 0;b 0 4 0;b 0 6 0;b 0 3 0;f 0;f 2;f 4;e;p 5";
            for (int length = 1; length < 24; length++) {
                int least = by(text).least(0, length);
                RegionHandles x = by(text);
                x.moves(0, least < 0 ? 240 : least);
                due("23: " + length + " behind " + least, x.would(0, length, 0) >= 0 ? 1 : 0, least < 0 ? 0 : 1);
                if (least <= 0) continue;
                RegionHandles y = by(text);
                y.moves(0, least - 1);
                due("23: " + length + " behind one less", y.would(0, length, 0), -2);
            }
        }
    }

    /** 0: there is room already; NOT: no budget would do. */
    private static void promise23Nothing() {
        RegionHandles x = by("r 40 0;r 8 1;b 1 8 0");
        due("23: empty, 1", x.least(0, 1), 0);
        due("23: empty, 40", x.least(0, 40), 0);
        due("23: full", x.least(1, 1), -2);
        RegionHandles y = by("r 10 0;b 0 1 0;b 0 3 0;b 0 1 0;f 0;e;p 1");
        due("23: below a pinned one is room", y.least(0, 1), 0);
        due("23: all the room behind it", y.least(0, 5), 0);
        due("23: a pinned one stays", y.least(0, 6), -2);
        y.pin(101, -1);
        due("23: it could go", y.least(0, 6), 4);
        y.free(101);
        due("23: a doomed one stays", y.least(0, 6), -2);
        y.advance();
        due("23: it is gone, the last must go", y.least(0, 9), 1);
    }

    /** Thirty live blocks, and each of them must go. */
    private static void promise23All() {
        RegionHandles x = new RegionHandles();
        Scenes.allSlots(x);
        x.grow(100, 1);
        due("23: there is room", x.least(0, 8), 0);
        due("23: all must go", x.least(0, 9), 31);
        due("23: not even then", x.least(0, 10), -2);
    }

    /** "how many (k -1), the SLOT of the k-th. BAD (k below -1); NOT". */
    private static void promise24NoneAndAll() {
        RegionHandles x = new RegionHandles();
        due("24: nobody", x.leaked(-1), 0);
        due("24: no first", x.leaked(0), -2);
        due("24: below -1", x.leaked(-2), -1);
        Scenes.allSlots(x);
        due("24: all thirty", x.leaked(-1), 30);
        for (int k = 0; k < 30; k++) due("24: by slots", x.leaked(k), k);
        due("24: behind the last", x.leaked(30), -2);
        for (int slot = 0; slot < 30; slot++) x.tag(100 + slot, slot);
        due("24: none", x.leaked(-1), 0);
        due("24: no first", x.leaked(0), -2);
        x.free(100);
        due("24: a doomed one is not", x.leaked(-1), 0);
    }

    /** "a CELL of a REACHED one holds the HANDLE": its first cell, its last, no other. */
    private static void promise24Cells() {
        for (int i = 0; i < 5; i++) {
            RegionHandles x = by("r 20 0;b 0 5 0;b 0 5 0;t 0 0 0");
            due("24: not reached", x.leaked(-1), 1);
            x.write(100, i, 101);
            due("24: by cell " + i, x.leaked(-1), 0);
            x.write(100, i, 1);
            due("24: its slot alone", x.leaked(-1), 1);
            x.write(100, i, 201);
            due("24: another generation", x.leaked(-1), 1);
            x.write(100, i, -101);
            due("24: less than 0", x.leaked(-1), 1);
            x.write(100, i, 131);
            due("24: no slot", x.leaked(-1), 1);
        }
        RegionHandles y = by("r 20 0;b 0 2 0;b 0 3 0;b 0 2 0;t 0 0 0");
        y.write(101, 0, 102);
        due("24: a neighbour's cell", y.leaked(-1), 2);
        RegionHandles z = by("r 20 0;b 0 2 0;b 0 2 0;t 0 0 0;f 1;e;b 0 2 0");
        z.write(100, 0, 101);
        due("24: the handle of one that is gone", z.leaked(-1), 1);
        z.write(100, 1, 201);
        due("24: the handle of the one that came", z.leaked(-1), 0);
    }

    /** "LIVE BLOCKS with a TAG or PINS; and each LIVE one of which ..": from them alone. */
    private static void promise24FromWhom() {
        RegionHandles x = by("r 20 0;b 0 2 0;b 0 2 0;b 0 2 0");
        x.write(100, 0, 100);
        due("24: its own handle does not reach it", x.leaked(-1), 3);
        x.write(101, 0, 102);
        x.write(102, 0, 101);
        due("24: nor each other's", x.leaked(-1), 3);
        x.hold(0, 100);
        due("24: nor a holder's", x.leaked(-1), 3);
        x.row(1, 1);
        x.put(1, 0, 100);
        due("24: nor a row's", x.leaked(-1), 3);
        x.pin(101, 1);
        due("24: one pin", x.leaked(-1), 1);
        x.pin(101, -1);
        due("24: no pin", x.leaked(-1), 3);
        x.tag(102, 0);
        due("24: a tag of number 0", x.leaked(-1), 1);
        due("24: whom none holds", x.leaked(0), 0);
        x.free(102);
        due("24: a doomed one reaches none", x.leaked(-1), 2);
        due("24: the second", x.leaked(1), 1);
    }

    private static void promise24Long() {
        RegionHandles x = new RegionHandles();
        Scenes.allSlots(x);
        for (int slot = 29; slot > 0; slot--) x.write(100 + slot, 0, 99 + slot);
        due("24: all", x.leaked(-1), 30);
        x.pin(129, 1);
        due("24: each by the one ahead", x.leaked(-1), 0);
        x.write(115, 0, 0);
        due("24: not past a gap", x.leaked(-1), 15);
        due("24: the last of them", x.leaked(14), 14);
        due("24: behind it", x.leaked(15), -2);
    }

    /** "the least number of such ways from the first to the other (0: they are one); NOT". */
    private static void promise25() {
        RegionHandles x = new RegionHandles();
        Scenes.allSlots(x);
        for (int slot = 0; slot < 29; slot++) x.write(100 + slot, 0, 101 + slot);
        due("25: to itself", x.path(100, 100), 0);
        due("25: 1", x.path(100, 101), 1);
        due("25: 29", x.path(100, 129), 29);
        due("25: not back", x.path(129, 100), -2);
        due("25: the last to itself", x.path(129, 129), 0);
        x.write(129, 0, 100);
        due("25: round", x.path(101, 100), 29);
        due("25: to itself, round too", x.path(101, 101), 0);
        x.write(110, 0, 110);
        due("25: it holds its own", x.path(110, 110), 0);
        due("25: the way is cut", x.path(100, 111), -2);
        RegionHandles y = by("r 30 0;b 0 2 0;b 0 2 0;b 0 2 0;b 0 2 0");
        y.write(100, 0, 101);
        y.write(101, 0, 102);
        y.write(102, 0, 103);
        due("25: 3", y.path(100, 103), 3);
        y.write(100, 1, 102);
        due("25: 2, by the last cell", y.path(100, 103), 2);
        y.write(101, 1, 103);
        due("25: 2, either way", y.path(100, 103), 2);
        y.write(100, 0, 103);
        due("25: 1", y.path(100, 103), 1);
        y.write(100, 0, 0);
        y.free(102);
        due("25: none", y.path(100, 103), -2);
    }

    /** "STALE (either)". */
    private static void promise25Stale() {
        RegionHandles x = by("r 30 0;b 0 2 0;b 0 2 0;b 0 2 0;f 1");
        x.write(100, 0, 101);
        due("25: the other", x.path(100, 101), -4);
        due("25: the first", x.path(101, 100), -4);
        due("25: both", x.path(101, 101), -4);
        due("25: an old generation", x.path(0, 100), -4);
        due("25: a coming one", x.path(100, 202), -4);
        due("25: slot 30", x.path(100, 130), -4);
        x.advance();
        due("25: gone", x.path(100, 101), -4);
        x.block(0, 2, 0);
        due("25: the one that came is not held", x.path(100, 201), -2);
    }

    /** "how many DOOMED BLOCKS would be gone by an ADVANCE": as many as then are. */
    private static void promise26Freeable() {
        RegionHandles x = by("r 40 0;b 0 1 0;b 0 1 0;b 0 1 0;b 0 1 0");
        due("26: none is doomed", x.epochs(0), 0);
        x.free(100);
        due("26: one", x.epochs(0), 1);
        x.enter(5);
        due("26: he is in since that epoch", x.epochs(0), 0);
        due("26: so it is", x.advance(), 0);
        x.free(101);
        due("26: in since an earlier one", x.epochs(0), 0);
        x.leave(5);
        due("26: none is in", x.epochs(0), 2);
        x.enter(0);
        due("26: in since a later one than the first's", x.epochs(0), 1);
        due("26: so it is", x.advance(), 1);
        due("26: the other stays", x.epochs(0), 0);
        x.enter(1);
        x.leave(0);
        due("26: who is in since later does not hold it", x.epochs(0), 1);
        due("26: so it is", x.advance(), 1);
        due("26: none is left", x.epochs(0), 0);
        RegionHandles y = new RegionHandles();
        Scenes.allSlots(y);
        for (int slot = 0; slot < 30; slot++) y.free(100 + slot);
        due("26: all thirty", y.epochs(0), 30);
    }

    /** "the READER who is IN since the earliest EPOCH (of several the least number); NOT". */
    private static void promise26Holds() {
        RegionHandles x = new RegionHandles();
        due("26: nobody", x.epochs(1), -2);
        due("26: no bits", x.epochs(2), 0);
        for (int reader = 5; reader >= 0; reader--) {
            x.enter(reader);
            due("26: of several the least", x.epochs(1), reader);
        }
        due("26: all bits", x.epochs(2), 63);
        for (int reader = 0; reader < 6; reader++) {
            due("26: the least who is in", x.epochs(1), reader);
            x.leave(reader);
        }
        due("26: nobody again", x.epochs(1), -2);
        for (int reader = 5; reader >= 0; reader--) {
            x.enter(reader);
            due("26: the earliest", x.epochs(1), 5);
            x.advance();
        }
        for (int reader = 5; reader >= 0; reader--) {
            due("26: the earliest who is in", x.epochs(1), reader);
            due("26: bits", x.epochs(2), (2 << reader) - 1);
            x.leave(reader);
        }
    }

    private static int planOf(RegionHandles x, int region, int... elements) {
        Scenes.row(x, 0, elements);
        return x.plan(0, region);
    }

    /** "n 0, above 40". */
    private static void promise27Lengths() {
        RegionHandles x = by("r 120 0");
        due("27: 1", planOf(x, 0, 1), -2);
        due("27: 40", planOf(x, 0, 40), -2);
        due("27: 0", planOf(x, 0, 0), 0);
        due("27: 41", planOf(x, 0, 41), 0);
        due("27: greatest", planOf(x, 0, Integer.MAX_VALUE), 0);
        due("27: least", planOf(x, 0, Integer.MIN_VALUE), 0);
        due("27: 0 behind one", planOf(x, 0, 1, 0), 1);
        due("27: 41 behind one", planOf(x, 0, 1, 41), 1);
        due("27: what comes behind does not matter", planOf(x, 0, 1, 0, 0, 41), 1);
    }

    /** "no room": by the region's own way, in that region alone. */
    private static void promise27Room() {
        for (int way = 0; way < 2; way++) {
            RegionHandles x = by("r 8 0;r 20 " + way + ";r 8 0;b 1 3 0;b 1 4 0;b 1 5 0;f 1;e");
            due("27: just the room", planOf(x, 1, 8, 4), -2);
            due("27: one more", planOf(x, 1, 9), 0);
            due("27: nothing is left", planOf(x, 1, 8, 4, 1), 2);
            due("27: the first row, then the other", planOf(x, 1, 4, 8), -2);
            due("27: the first row is begun", planOf(x, 1, 1, 4, 3, 4), -2);
            due("27: the first row is begun, the other too", planOf(x, 1, 1, 4, 4, 4), 3);
            due("27: another region", planOf(x, 0, 8), -2);
            due("27: another region, one more", planOf(x, 2, 8, 1), 1);
            due("27: again, for nothing changed", planOf(x, 1, 8, 4), -2);
        }
    }

    /** "the -n-th of those placed by the PLAN (from 1) is gone"; "wasn't placed yet, or is gone already". */
    private static void promise27Gone() {
        RegionHandles x = by("r 10 0");
        due("27: the first", planOf(x, 0, 10, -1, 10), -2);
        due("27: none is placed yet", planOf(x, 0, -1), 0);
        due("27: the second is not placed yet", planOf(x, 0, 3, -2, 3), 1);
        due("27: the last that is placed", planOf(x, 0, 3, 3, 3, -3, 4), -2);
        due("27: behind the last that is placed", planOf(x, 0, 3, 3, 3, -4), 3);
        due("27: gone already", planOf(x, 0, 3, 3, -2, -2), 3);
        due("27: the first and the second", planOf(x, 0, 3, 3, -1, -2, 10), -2);
        due("27: each keeps its number", planOf(x, 0, 5, 5, -1, -2, -1), 4);
        due("27: a new one has the next number", planOf(x, 0, 5, 5, -1, 5, -3, 5), -2);
        due("27: the old number is not the new one's", planOf(x, 0, 5, 5, -1, 5, -1), 4);
        due("27: its cells alone are free", planOf(x, 0, 5, 5, -1, 6), 3);
        due("27: in the first row again", planOf(x, 0, 2, 3, 5, -1, -2, 5), -2);
        due("27: all is gone", planOf(x, 0, 2, 3, 5, -2, -3, -1, 10), -2);
        RegionHandles y = by("r 10 0;b 0 4 0");
        due("27: not a block that is there", planOf(y, 0, -1), 0);
    }

    /** A ROW of 0 .. 60. */
    private static void promise27Rows() {
        RegionHandles x = by("r 120 1");
        due("27: no elements", planOf(x, 0), -2);
        int[] elements = new int[60];
        java.util.Arrays.fill(elements, 2);
        due("27: sixty", planOf(x, 0, elements), -2);
        elements[0] = 3;
        due("27: the sixtieth has no room", planOf(x, 0, elements), 59);
        elements[0] = 2;
        elements[59] = -59;
        due("27: the 59th is gone", planOf(x, 0, elements), -2);
        elements[59] = -60;
        due("27: the 60th is not there", planOf(x, 0, elements), 59);
    }

    /** "by room alone, no SLOT, no QUOTA is asked". */
    private static void promise27ByRoomAlone() {
        RegionHandles x = new RegionHandles();
        Scenes.allSlots(x);
        for (int owner = 0; owner < 10; owner++) x.quota(owner, 3);
        due("27: no slot, no quota", planOf(x, 0, 10), -2);
        due("27: no room", planOf(x, 0, 11), 0);
        due("27: a slot is not had either", planOf(x, 0, 1, 1, 1, 1, 1, 1, 1, 1, 1, 1, -10, 1), -2);
    }

    private static int toldOf(RegionHandles x, int handle, int... items) {
        Scenes.row(x, 5, items);
        return x.told(5, handle);
    }

    /** "the first CELL (from 0) that is otherwise, or not there; how many were told ..; NOT, if it has no more". */
    private static void promise28() {
        RegionHandles x = by("r 20 0;b 0 3 0;b 0 3 0");
        x.write(100, 0, 7);
        x.write(100, 1, Integer.MIN_VALUE);
        x.write(100, 2, RegionHandles.VOID);
        x.write(101, 0, 5);
        due("28: none", toldOf(x, 100), 0);
        due("28: one of three", toldOf(x, 100, 7), 1);
        due("28: two of three", toldOf(x, 100, 7, Integer.MIN_VALUE), 2);
        due("28: all", toldOf(x, 100, 7, Integer.MIN_VALUE, RegionHandles.VOID), -2);
        due("28: one more, which is not there", toldOf(x, 100, 7, Integer.MIN_VALUE, RegionHandles.VOID, 5), 3);
        due("28: two more", toldOf(x, 100, 7, Integer.MIN_VALUE, RegionHandles.VOID, 5, 0), 3);
        due("28: the first is otherwise", toldOf(x, 100, 6, Integer.MIN_VALUE, RegionHandles.VOID), 0);
        due("28: the second is otherwise", toldOf(x, 100, 7, 0, RegionHandles.VOID), 1);
        due("28: the last is otherwise", toldOf(x, 100, 7, Integer.MIN_VALUE, 0), 2);
        due("28: the first of two that are", toldOf(x, 100, 7, 0, 0), 1);
        due("28: the last that is told is otherwise", toldOf(x, 100, 7, 0), 1);
        due("28: otherwise ahead of not there", toldOf(x, 100, 7, Integer.MIN_VALUE, 0, 5), 2);
        due("28: another block's", toldOf(x, 101, 5, 0, 0), -2);
        x.free(100);
        due("28: doomed", toldOf(x, 100, 7), -4);
        due("28: doomed, none", toldOf(x, 100), -4);
    }

    private static void promise28Longest() {
        RegionHandles x = by("r 60 0;b 0 40 0;b 0 1 0");
        due("28: 40 of 40", toldOf(x, 100, new int[40]), -2);
        due("28: 39 of 40", toldOf(x, 100, new int[39]), 39);
        due("28: 41 of 40", toldOf(x, 100, new int[41]), 40);
        due("28: 60 of 40", toldOf(x, 100, new int[60]), 40);
        due("28: 1 of 1", toldOf(x, 101, 0), -2);
        due("28: 2 of 1", toldOf(x, 101, 0, 0), 1);
        x.write(100, 39, 1);
        due("28: the last cell", toldOf(x, 100, new int[60]), 39);
    }
}
