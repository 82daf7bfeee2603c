/**
 * Memory in regions with handles. ../shared/DOC.md says what each call does,
 * under the promise that is named ahead of it here.
 */
public final class RegionHandles {
    public static final int BAD = -1, NOT = -2, FULL = -3, STALE = -4, STATE = -5, QUOTA = -6;
    public static final int VOID = -2000000000;

    private static final int NOTHING_THERE = -11, ANOTHER_SORT = -12, SIZE_BELOW_0 = -14;
    private static final int FAULT_OF_FORM = -1000, LINE_REFUSED = -2000;

    private static final int CELLS = 240;
    private static final int REGIONS = 6, SHORTEST_REGION = 8, LONGEST_REGION = 120;
    private static final int FROM_BELOW = 0, FROM_ABOVE = 1;
    private static final int SLOTS = 30, LONGEST_BLOCK = 40, MOST_PINS = 9;
    private static final int NO_BLOCK = 0, LIVE = 1, DOOMED = 2;
    private static final int OWNERS = 10, READERS = 6;
    private static final int TAG_SORTS = 5, TAG_NUMBERS = 100;
    private static final int HANDLE_STEP = 100;
    private static final int HOLDERS = 6, LONGEST_ROW = 60;
    private static final int HOLDS_NOTHING = 0, HOLDS_HANDLE = 1, HOLDS_ROW = 2;
    private static final int TAPE_BYTES = 120;
    /** A tape of 120 bytes has room for 60 lines of one letter with a ; between. */
    private static final int MOST_LINES = 60;
    private static final int MOST_NUMBERS = 3;
    private static final int CELL_FREE = 100, CELL_IN_NO_REGION = 101;
    /** No slot, no place, no tag, no epoch: all of these count from 0. */
    private static final int NONE = -1;

    private final Memory now = new Memory();
    private final Memory kept = new Memory();
    private final Memory before = new Memory();
    private final Memory thought = new Memory();
    private final Walk walk = new Walk();
    private final Planned planned = new Planned();
    private final Tape tape = new Tape();
    private final Holders holders = new Holders();
    private boolean imageKept;

    /** Promise 1. */
    public RegionHandles() {
        imageKept = false;
    }

    // ---- regions, blocks

    /** Promise 2. */
    public int region(int length, int way) {
        if (length < SHORTEST_REGION || length > LONGEST_REGION) return BAD;
        if (way != FROM_BELOW && way != FROM_ABOVE) return BAD;
        int region = now.regions.addNext(length, way);
        return region == NONE ? FULL : region;
    }

    /** Promise 3. */
    public int block(int region, int length, int owner) {
        if (!now.regions.has(region) || !isBlockLength(length) || !isOwner(owner)) return BAD;
        if (!now.quotaAllows(owner, length)) return QUOTA;
        int slot = now.blocks.leastUnusedSlot();
        int low = now.placeFor(region, length);
        if (slot == NONE || low == NONE) return FULL;
        now.makeBlock(slot, region, low, length, owner);
        return now.blocks.handleOf(slot);
    }

    /** Promise 4. */
    public int free(int handle) {
        int slot = now.blocks.liveSlotOf(handle);
        if (slot == NONE) return STALE;
        if (now.blocks.pins[slot] > 0) return STATE;
        now.doom(slot);
        return now.epoch;
    }

    /** Promise 5. */
    public int pin(int handle, int n) {
        if (n != 1 && n != -1) return BAD;
        int slot = now.blocks.liveSlotOf(handle);
        if (slot == NONE) return STALE;
        int pins = now.blocks.pins[slot] + n;
        if (pins < 0 || pins > MOST_PINS) return STATE;
        now.blocks.pins[slot] = pins;
        return pins;
    }

    /** Promise 6. */
    public int grow(int handle, int n) {
        if (n < 1 || n >= LONGEST_BLOCK) return BAD;
        int slot = now.blocks.liveSlotOf(handle);
        if (slot == NONE) return STALE;
        if (now.blocks.pins[slot] > 0) return STATE;
        if (!now.quotaAllows(now.blocks.owner[slot], n)) return QUOTA;
        if (!isBlockLength(now.blocks.size[slot] + n)) return FULL;
        if (!now.growInPlace(slot, n) && !now.growElsewhere(slot, n)) return FULL;
        return now.blocks.size[slot];
    }

    /** Promise 7. */
    public int moves(int region, int budget) {
        if (!now.regions.has(region) || budget < 0 || budget > CELLS) return BAD;
        return now.moveWithin(region, budget);
    }

    /** Promise 8. */
    public int write(int handle, int i, int v) {
        int cell = now.cellAt(now.blocks.liveSlotOf(handle), i);
        if (cell == NONE) return VOID;
        int old = now.cells[cell];
        now.cells[cell] = v;
        return old;
    }

    /** Promise 9. */
    public int read(int handle, int i) {
        int cell = now.cellAt(now.blocks.liveSlotOf(handle), i);
        return cell == NONE ? VOID : now.cells[cell];
    }

    /** Promise 10. */
    public int peek(int reader, int handle, int i) {
        if (!isReader(reader) || now.inSince[reader] == NONE) return VOID;
        int slot = now.blocks.slotOf(handle);
        if (slot == NONE || !now.seenSince(slot, now.inSince[reader])) return VOID;
        int cell = now.cellAt(slot, i);
        return cell == NONE ? VOID : now.cells[cell];
    }

    /** Promise 11. */
    public int of(int handle, int what) {
        if (what < 0 || what > 5) return BAD;
        int slot = now.blocks.liveSlotOf(handle);
        if (slot == NONE) return STALE;
        switch (what) {
            case 0: return now.blocks.low[slot];
            case 1: return now.blocks.size[slot];
            case 2: return now.blocks.region[slot];
            case 3: return now.blocks.owner[slot];
            case 4: return now.blocks.pins[slot];
            default: return notIfNone(now.blocks.tag[slot]);
        }
    }

    /** Promise 12. */
    public int slot(int slot, int what) {
        if (slot < 0 || slot >= SLOTS) return BAD;
        boolean doomed = now.blocks.life[slot] == DOOMED;
        switch (what) {
            case 0: return notIfNone(now.blocks.liveHandleOf(slot));
            case 1: return now.blocks.generation[slot];
            case 2: return doomed ? 1 : 0;
            case 3: return doomed ? now.blocks.doomedBy[slot] : NOT;
            default: return BAD;
        }
    }

    /** Promise 13. */
    public int lies(int cell) {
        if (cell < 0 || cell >= CELLS) return BAD;
        int slot = now.ground.slotAt[cell];
        if (slot != NONE) return slot;
        return cell < now.regions.end() ? CELL_FREE : CELL_IN_NO_REGION;
    }

    // ---- tags, owners, readers

    /** Promise 14. */
    public int tag(int handle, int tag) {
        if (!isTag(tag)) return BAD;
        int slot = now.blocks.liveSlotOf(handle);
        if (slot == NONE) return STALE;
        int bearer = now.tagBearer(tag);
        if (bearer != NONE && bearer != slot) return STATE;
        now.giveTag(slot, tag);
        return now.tagOrder.many;
    }

    /** Promise 15. */
    public int find(int tag) {
        if (!isTag(tag)) return BAD;
        int slot = now.tagBearer(tag);
        return slot == NONE ? NOT : now.blocks.handleOf(slot);
    }

    /** Promise 16. */
    public int tagged(int k) {
        if (k < 0) return BAD;
        int slot = now.tagOrder.slotAt(k);
        return slot == NONE ? NOT : now.blocks.tag[slot];
    }

    /** Promise 17. */
    public int quota(int owner, int n) {
        if (!isOwner(owner) || n < 0 || n > CELLS) return BAD;
        if (now.blocks.usedBy(owner) > n) return STATE;
        int old = now.quotas[owner];
        now.quotas[owner] = n;
        return old;
    }

    /** Promise 18. */
    public int owner(int owner, int what) {
        if (!isOwner(owner)) return BAD;
        switch (what) {
            case 0: return now.blocks.usedBy(owner);
            case 1: return now.quotas[owner];
            case 2: return leakedCellsOf(owner);
            case 3: return now.blocks.liveOf(owner);
            default: return BAD;
        }
    }

    /** Promise 19. */
    public int enter(int reader) {
        if (!isReader(reader)) return BAD;
        if (now.inSince[reader] != NONE) return STATE;
        now.inSince[reader] = now.epoch;
        return now.epoch;
    }

    /** Promise 20. */
    public int leave(int reader) {
        if (!isReader(reader)) return BAD;
        int since = now.inSince[reader];
        if (since == NONE) return STATE;
        now.inSince[reader] = NONE;
        return since;
    }

    /** Promise 21. */
    public int advance() {
        now.epoch++;
        return now.dropFreeable();
    }

    // ---- in thought

    /** Promise 22. */
    public int would(int region, int length, int what) {
        if (!now.regions.has(region)) return BAD;
        int low = now.regions.low[region];
        int high = now.regions.highOf(region);
        switch (what) {
            case 0: return isBlockLength(length) ? notIfNone(now.placeFor(region, length)) : BAD;
            case 1: return now.ground.freeCells(low, high);
            case 2: return now.ground.longestFreeRow(low, high);
            case 3: return now.ground.freeRows(low, high);
            default: return BAD;
        }
    }

    /** Promise 23. */
    public int least(int region, int length) {
        if (!now.regions.has(region) || !isBlockLength(length)) return BAD;
        thought.copyFrom(now);
        return notIfNone(thought.leastBudget(region, length));
    }

    /** Promise 24. */
    public int leaked(int k) {
        if (k < -1) return BAD;
        walk.fromTagsAndPins(now);
        int many = 0;
        for (int slot = 0; slot < SLOTS; slot++) {
            if (!isLeaked(slot)) continue;
            if (many == k) return slot;
            many++;
        }
        return k == -1 ? many : NOT;
    }

    /** Promise 25. */
    public int path(int handle, int other) {
        int from = now.blocks.liveSlotOf(handle);
        int to = now.blocks.liveSlotOf(other);
        if (from == NONE || to == NONE) return STALE;
        walk.from(now, from);
        return notIfNone(walk.steps[to]);
    }

    /** Promise 26. */
    public int epochs(int what) {
        switch (what) {
            case 0: return now.freeable();
            case 1: return notIfNone(now.earliestReader());
            case 2: return now.readersIn();
            default: return BAD;
        }
    }

    /** Promise 27. */
    public int plan(int holder, int region) {
        if (!isHolder(holder) || !now.regions.has(region)) return BAD;
        int fault = holders.faultAsRow(holder);
        if (fault != 0) return fault;
        thought.ground.copyFrom(now.ground);
        planned.many = 0;
        for (int i = 0; i < holders.size[holder]; i++) {
            if (!planElement(holders.item(holder, i), region)) return i;
        }
        return NOT;
    }

    /** Promise 28. */
    public int told(int holder, int handle) {
        if (!isHolder(holder)) return BAD;
        int fault = holders.faultAsRow(holder);
        if (fault != 0) return fault;
        int slot = now.blocks.liveSlotOf(handle);
        if (slot == NONE) return STALE;
        int many = holders.size[holder];
        for (int i = 0; i < many; i++) {
            int cell = now.cellAt(slot, i);
            if (cell == NONE || now.cells[cell] != holders.item(holder, i)) return i;
        }
        return many < now.blocks.size[slot] ? many : NOT;
    }

    // ---- texts, images, holders

    /** Promise 29. */
    public int feed(int letter) {
        if (letter < 0 || letter > 255) return BAD;
        return tape.append(letter) ? tape.many : FULL;
    }

    /** Promise 30. */
    public int script() {
        boolean hasForm = tape.hasForm();
        tape.many = 0;
        if (!hasForm) return FAULT_OF_FORM - tape.at;
        before.copyFrom(now);
        for (int line = 0; line < tape.lines; line++) {
            if (doLine(line) < 0) {
                now.copyFrom(before);
                return LINE_REFUSED - line;
            }
        }
        return tape.lines;
    }

    /** Promise 31. */
    public int image() {
        kept.copyFrom(now);
        imageKept = true;
        return now.blocks.manyOf(LIVE);
    }

    /** Promise 32. */
    public int back() {
        if (!imageKept) return STATE;
        now.copyFrom(kept);
        return now.blocks.manyOf(LIVE);
    }

    /** Promise 33. */
    public int hold(int holder, int handle) {
        if (!isHolder(holder)) return BAD;
        if (handle == -1) {
            holders.sort[holder] = HOLDS_NOTHING;
            return 1;
        }
        if (now.blocks.liveSlotOf(handle) == NONE) return STALE;
        holders.sort[holder] = HOLDS_HANDLE;
        holders.handle[holder] = handle;
        return 1;
    }

    /** Promise 34. */
    public int row(int holder, int n) {
        if (!isHolder(holder) || n > LONGEST_ROW) return BAD;
        if (n < 0) return SIZE_BELOW_0;
        holders.takeRow(holder, n);
        return 1;
    }

    /** Promise 35. */
    public int put(int holder, int i, int v) {
        if (!isHolder(holder) || !holders.hasItem(holder, i)) return VOID;
        int old = holders.item(holder, i);
        holders.setItem(holder, i, v);
        return old;
    }

    /** Promise 36. */
    public int tells(int holder, int as) {
        if (!isHolder(holder) || as < 0 || as > 3) return BAD;
        if (holders.sort[holder] == HOLDS_NOTHING) return NOTHING_THERE;
        if (holders.sort[holder] == HOLDS_ROW) return ANOTHER_SORT;
        return takenFor(holders.handle[holder], as);
    }

    /** Promise 37. */
    public int count(int what) {
        switch (what) {
            case 0: return now.regions.many;
            case 1: return now.blocks.manyOf(LIVE);
            case 2: return now.blocks.manyOf(DOOMED);
            case 3: return now.tagOrder.many;
            case 4: return now.epoch;
            case 5: return now.blocks.cellsInAll();
            case 6: return tape.many;
            case 7: return holders.manyHolding();
            default: return BAD;
        }
    }

    // ---- what several calls ask

    private static boolean isBlockLength(int length) {
        return length >= 1 && length <= LONGEST_BLOCK;
    }

    private static boolean isOwner(int owner) {
        return owner >= 0 && owner < OWNERS;
    }

    private static boolean isReader(int reader) {
        return reader >= 0 && reader < READERS;
    }

    private static boolean isHolder(int holder) {
        return holder >= 0 && holder < HOLDERS;
    }

    private static boolean isTag(int tag) {
        return tag >= 0 && tag < TAG_SORTS * TAG_NUMBERS;
    }

    private static int notIfNone(int answer) {
        return answer == NONE ? NOT : answer;
    }

    private static void copyAll(int[] from, int[] to) {
        System.arraycopy(from, 0, to, 0, Math.min(from.length, to.length));
    }

    private static void fill(int[] numbers, int low, int many, int v) {
        if (low < 0) return;
        for (int i = low; i < low + many && i < numbers.length; i++) numbers[i] = v;
    }

    /** Asked behind walk.fromTagsAndPins alone. */
    private boolean isLeaked(int slot) {
        return now.blocks.life[slot] == LIVE && walk.steps[slot] == NONE;
    }

    private int leakedCellsOf(int owner) {
        walk.fromTagsAndPins(now);
        int cells = 0;
        for (int slot = 0; slot < SLOTS; slot++) {
            if (now.blocks.owner[slot] == owner && isLeaked(slot)) cells += now.blocks.size[slot];
        }
        return cells;
    }

    private int takenFor(int handle, int as) {
        if (as == 0) return handle / HANDLE_STEP;
        int slot = now.blocks.liveSlotOf(handle);
        if (slot == NONE) return ANOTHER_SORT;
        if (as == 1) return now.blocks.size[slot];
        if (as == 2) return now.blocks.pins[slot] > 0 ? now.blocks.pins[slot] : ANOTHER_SORT;
        return now.blocks.tag[slot] == NONE ? ANOTHER_SORT : now.blocks.tag[slot];
    }

    /** Whether the next element of a plan can be; if so, it is done on the ground that is thought of. */
    private boolean planElement(int element, int region) {
        if (element < 0) return planned.dropFrom(thought.ground, element);
        if (!isBlockLength(element)) return false;
        int low = thought.ground.placeIn(now.regions, region, element);
        return low != NONE && planned.putOn(thought.ground, low, element);
    }

    /** A line answers as its call does: below 0 if it is refused. */
    private int doLine(int line) {
        int a = tape.number(line, 0);
        int b = tape.number(line, 1);
        int c = tape.number(line, 2);
        switch (tape.letter[line]) {
            case 'r': return region(a, b);
            case 'b': return block(a, b, c);
            case 'f': return free(now.blocks.liveHandleOf(a));
            case 'p': return pin(now.blocks.liveHandleOf(a), 1);
            case 'u': return pin(now.blocks.liveHandleOf(a), -1);
            case 't': return tagByLine(now.blocks.liveHandleOf(a), b, c);
            case 'm': return moves(a, b);
            case 'i': return enter(a);
            case 'o': return leave(a);
            default: return advance();
        }
    }

    /** A number of 100 and more must not pass for one of the next sort. */
    private int tagByLine(int handle, int sort, int number) {
        if (sort >= TAG_SORTS || number >= TAG_NUMBERS) return BAD;
        return tag(handle, TAG_NUMBERS * sort + number);
    }

    /** The regions as they came; each begins where the one before it ends, as none ever goes. */
    private static final class Regions {
        int many;
        final int[] low = new int[REGIONS];
        final int[] size = new int[REGIONS];
        final int[] way = new int[REGIONS];

        boolean has(int region) {
            return region >= 0 && region < many && region < REGIONS;
        }

        int highOf(int region) {
            return low[region] + size[region];
        }

        /** The least cell that is in no region. */
        int end() {
            return has(many - 1) ? highOf(many - 1) : 0;
        }

        int addNext(int length, int wayToPlace) {
            int begin = end();
            if (many >= REGIONS || begin + length > CELLS) return NONE;
            low[many] = begin;
            size[many] = length;
            way[many] = wayToPlace;
            many++;
            return many - 1;
        }

        void copyFrom(Regions other) {
            many = other.many;
            copyAll(other.low, low);
            copyAll(other.size, size);
            copyAll(other.way, way);
        }
    }

    /** Which slot's block lies in each cell, and the free rows between them. */
    private static final class Ground {
        final int[] slotAt = new int[CELLS];

        Ground() {
            release(0, CELLS);
        }

        void take(int low, int many, int slot) {
            fill(slotAt, low, many, slot);
        }

        void release(int low, int many) {
            fill(slotAt, low, many, NONE);
        }

        boolean isFree(int low, int many) {
            for (int cell = low; cell < low + many; cell++) {
                if (slotAt[cell] != NONE) return false;
            }
            return true;
        }

        int placeIn(Regions regions, int region, int many) {
            int low = regions.low[region];
            int high = regions.highOf(region);
            if (regions.way[region] == FROM_BELOW) return placeFromBelow(low, high, many);
            return placeFromAbove(low, high, many);
        }

        private int placeFromBelow(int low, int high, int many) {
            int free = 0;
            for (int cell = low; cell < high; cell++) {
                free = slotAt[cell] == NONE ? free + 1 : 0;
                if (free == many) return cell - many + 1;
            }
            return NONE;
        }

        private int placeFromAbove(int low, int high, int many) {
            int free = 0;
            for (int cell = high - 1; cell >= low; cell--) {
                free = slotAt[cell] == NONE ? free + 1 : 0;
                if (free == many) return cell;
            }
            return NONE;
        }

        int freeCells(int low, int high) {
            int free = 0;
            for (int cell = low; cell < high; cell++) {
                if (slotAt[cell] == NONE) free++;
            }
            return free;
        }

        int longestFreeRow(int low, int high) {
            int longest = 0;
            int free = 0;
            for (int cell = low; cell < high; cell++) {
                free = slotAt[cell] == NONE ? free + 1 : 0;
                longest = Math.max(longest, free);
            }
            return longest;
        }

        int freeRows(int low, int high) {
            int rows = 0;
            boolean inRow = false;
            for (int cell = low; cell < high; cell++) {
                boolean free = slotAt[cell] == NONE;
                if (free && !inRow) rows++;
                inRow = free;
            }
            return rows;
        }

        void copyFrom(Ground other) {
            copyAll(other.slotAt, slotAt);
        }
    }

    /** What is known of the block of each slot; but for the generation it means nothing where there is no block. */
    private static final class Blocks {
        final int[] generation = new int[SLOTS];
        final int[] life = new int[SLOTS];
        final int[] low = new int[SLOTS];
        final int[] size = new int[SLOTS];
        final int[] region = new int[SLOTS];
        final int[] owner = new int[SLOTS];
        final int[] pins = new int[SLOTS];
        final int[] tag = new int[SLOTS];
        final int[] doomedBy = new int[SLOTS];

        int leastUnusedSlot() {
            for (int slot = 0; slot < SLOTS; slot++) {
                if (life[slot] == NO_BLOCK) return slot;
            }
            return NONE;
        }

        int handleOf(int slot) {
            return HANDLE_STEP * generation[slot] + slot;
        }

        /** NONE, which is no block's handle, if the slot has no live block. */
        int liveHandleOf(int slot) {
            if (slot < 0 || slot >= SLOTS || life[slot] != LIVE) return NONE;
            return handleOf(slot);
        }

        /** The slot of the block that bears a handle or, doomed, bore it. */
        int slotOf(int handle) {
            if (handle < 0) return NONE;
            int slot = handle % HANDLE_STEP;
            if (slot >= SLOTS || life[slot] == NO_BLOCK) return NONE;
            return generation[slot] == handle / HANDLE_STEP ? slot : NONE;
        }

        /** The slot if the handle is good. */
        int liveSlotOf(int handle) {
            int slot = slotOf(handle);
            if (slot == NONE) return NONE;
            return life[slot] == LIVE ? slot : NONE;
        }

        int manyOf(int wanted) {
            int many = 0;
            for (int slot = 0; slot < SLOTS; slot++) {
                if (life[slot] == wanted) many++;
            }
            return many;
        }

        int liveOf(int whose) {
            int many = 0;
            for (int slot = 0; slot < SLOTS; slot++) {
                if (life[slot] == LIVE && owner[slot] == whose) many++;
            }
            return many;
        }

        int usedBy(int whose) {
            int cells = 0;
            for (int slot = 0; slot < SLOTS; slot++) {
                if (life[slot] != NO_BLOCK && owner[slot] == whose) cells += size[slot];
            }
            return cells;
        }

        int cellsInAll() {
            int cells = 0;
            for (int slot = 0; slot < SLOTS; slot++) {
                if (life[slot] != NO_BLOCK) cells += size[slot];
            }
            return cells;
        }

        void copyFrom(Blocks other) {
            copyAll(other.generation, generation);
            copyAll(other.life, life);
            copyAll(other.low, low);
            copyAll(other.size, size);
            copyAll(other.region, region);
            copyAll(other.owner, owner);
            copyAll(other.pins, pins);
            copyAll(other.tag, tag);
            copyAll(other.doomedBy, doomedBy);
        }
    }

    /** The slots of the tagged blocks, in the order in which their tags were given. */
    private static final class TagOrder {
        int many;
        final int[] slots = new int[SLOTS];

        int slotAt(int k) {
            return k >= 0 && k < many && k < SLOTS ? slots[k] : NONE;
        }

        void addLast(int slot) {
            if (many >= SLOTS) return;
            slots[many] = slot;
            many++;
        }

        void drop(int slot) {
            int left = 0;
            for (int k = 0; k < many && k < SLOTS; k++) {
                if (slots[k] == slot) continue;
                slots[left] = slots[k];
                left++;
            }
            many = left;
        }

        void copyFrom(TagOrder other) {
            many = other.many;
            copyAll(other.slots, slots);
        }
    }

    /** All that stands under 1 of the terms: what an image keeps, and what a refused text gives back. */
    private static final class Memory {
        int epoch;
        final int[] cells = new int[CELLS];
        final Regions regions = new Regions();
        final Ground ground = new Ground();
        final Blocks blocks = new Blocks();
        final TagOrder tagOrder = new TagOrder();
        final int[] quotas = new int[OWNERS];
        /** By reader; NONE: he is out. */
        final int[] inSince = new int[READERS];

        Memory() {
            fill(quotas, 0, OWNERS, CELLS);
            fill(inSince, 0, READERS, NONE);
        }

        void copyFrom(Memory other) {
            epoch = other.epoch;
            copyAll(other.cells, cells);
            regions.copyFrom(other.regions);
            ground.copyFrom(other.ground);
            blocks.copyFrom(other.blocks);
            tagOrder.copyFrom(other.tagOrder);
            copyAll(other.quotas, quotas);
            copyAll(other.inSince, inSince);
        }

        boolean quotaAllows(int owner, int more) {
            return blocks.usedBy(owner) + more <= quotas[owner];
        }

        int placeFor(int region, int length) {
            return ground.placeIn(regions, region, length);
        }

        /** The memory's cell that is cell i of the block of a slot. */
        int cellAt(int slot, int i) {
            if (slot < 0 || slot >= SLOTS || i < 0 || i >= blocks.size[slot]) return NONE;
            return blocks.low[slot] + i;
        }

        void makeBlock(int slot, int region, int low, int length, int owner) {
            blocks.generation[slot]++;
            blocks.life[slot] = LIVE;
            blocks.low[slot] = low;
            blocks.size[slot] = length;
            blocks.region[slot] = region;
            blocks.owner[slot] = owner;
            blocks.pins[slot] = 0;
            blocks.tag[slot] = NONE;
            ground.take(low, length, slot);
            fill(cells, low, length, 0);
        }

        void doom(int slot) {
            blocks.life[slot] = DOOMED;
            blocks.doomedBy[slot] = epoch;
            blocks.tag[slot] = NONE;
            tagOrder.drop(slot);
        }

        boolean growInPlace(int slot, int n) {
            int above = blocks.low[slot] + blocks.size[slot];
            if (above + n > regions.highOf(blocks.region[slot])) return false;
            if (!ground.isFree(above, n)) return false;
            ground.take(above, n, slot);
            fill(cells, above, n, 0);
            blocks.size[slot] += n;
            return true;
        }

        boolean growElsewhere(int slot, int n) {
            int size = blocks.size[slot];
            int low = placeFor(blocks.region[slot], size + n);
            if (low == NONE) return false;
            layAt(slot, low);
            blocks.size[slot] = size + n;
            ground.take(low + size, n, slot);
            fill(cells, low + size, n, 0);
            return true;
        }

        /** Lays a block at another place, with its content. */
        void layAt(int slot, int low) {
            int old = blocks.low[slot];
            int size = blocks.size[slot];
            System.arraycopy(cells, old, cells, low, size);
            ground.release(old, size);
            ground.take(low, size, slot);
            blocks.low[slot] = low;
        }

        /** Each of these moves leaves the blocks before it packed, so the next one is again the first that could. */
        int moveWithin(int region, int budget) {
            int used = 0;
            for (int i = 0; i < SLOTS; i++) {
                int slot = nextToMove(region);
                if (slot == NONE || blocks.size[slot] > budget - used) return used;
                used += blocks.size[slot];
                layAt(slot, movedLow(slot));
            }
            return used;
        }

        /** Moves on until there is room; NONE if no budget would do. */
        int leastBudget(int region, int length) {
            int used = 0;
            for (int i = 0; i <= SLOTS; i++) {
                if (placeFor(region, length) != NONE) return used;
                int slot = nextToMove(region);
                if (slot == NONE) return NONE;
                used += blocks.size[slot];
                layAt(slot, movedLow(slot));
            }
            return NONE;
        }

        private int nextToMove(int region) {
            int size = regions.size[region];
            boolean fromBelow = regions.way[region] == FROM_BELOW;
            for (int i = 0; i < size; i++) {
                int slot = ground.slotAt[regions.low[region] + (fromBelow ? i : size - 1 - i)];
                if (slot != NONE && mayMove(slot) && movedLow(slot) != blocks.low[slot]) return slot;
            }
            return NONE;
        }

        private boolean mayMove(int slot) {
            return blocks.life[slot] == LIVE && blocks.pins[slot] == 0;
        }

        /** Where a block comes to lie if it goes as far as it can to the end from which its region is filled. */
        private int movedLow(int slot) {
            int region = blocks.region[slot];
            int size = blocks.size[slot];
            int low = blocks.low[slot];
            if (regions.way[region] == FROM_BELOW) {
                while (low > regions.low[region] && ground.slotAt[low - 1] == NONE) low--;
                return low;
            }
            int highest = regions.highOf(region) - size;
            while (low < highest && ground.slotAt[low + size] == NONE) low++;
            return low;
        }

        int tagBearer(int tag) {
            for (int k = 0; k < tagOrder.many; k++) {
                int slot = tagOrder.slotAt(k);
                if (slot != NONE && blocks.tag[slot] == tag) return slot;
            }
            return NONE;
        }

        void giveTag(int slot, int tag) {
            tagOrder.drop(slot);
            tagOrder.addLast(slot);
            blocks.tag[slot] = tag;
        }

        /** Whether one who is in since an epoch sees the block of a slot. */
        boolean seenSince(int slot, int since) {
            return blocks.life[slot] == LIVE || blocks.doomedBy[slot] >= since;
        }

        private boolean isFreeable(int slot) {
            if (blocks.life[slot] != DOOMED) return false;
            for (int reader = 0; reader < READERS; reader++) {
                if (inSince[reader] != NONE && inSince[reader] <= blocks.doomedBy[slot]) return false;
            }
            return true;
        }

        int freeable() {
            int many = 0;
            for (int slot = 0; slot < SLOTS; slot++) {
                if (isFreeable(slot)) many++;
            }
            return many;
        }

        int dropFreeable() {
            int many = 0;
            for (int slot = 0; slot < SLOTS; slot++) {
                if (!isFreeable(slot)) continue;
                ground.release(blocks.low[slot], blocks.size[slot]);
                blocks.life[slot] = NO_BLOCK;
                many++;
            }
            return many;
        }

        int earliestReader() {
            int earliest = NONE;
            for (int reader = 0; reader < READERS; reader++) {
                if (inSince[reader] == NONE) continue;
                if (earliest == NONE || inSince[reader] < inSince[earliest]) earliest = reader;
            }
            return earliest;
        }

        int readersIn() {
            int bits = 0;
            for (int reader = 0; reader < READERS; reader++) {
                if (inSince[reader] != NONE) bits |= 1 << reader;
            }
            return bits;
        }
    }

    /** Goes from live blocks to those whose handles their cells hold, the nearest first. */
    private static final class Walk {
        /** How many ways it took to each slot; NONE: it is not come to. */
        final int[] steps = new int[SLOTS];
        private final int[] order = new int[SLOTS];
        private int come;

        void fromTagsAndPins(Memory memory) {
            begin();
            for (int slot = 0; slot < SLOTS; slot++) {
                if (memory.blocks.life[slot] != LIVE) continue;
                if (memory.blocks.tag[slot] != NONE || memory.blocks.pins[slot] > 0) comeTo(slot, 0);
            }
            goOn(memory);
        }

        void from(Memory memory, int slot) {
            begin();
            comeTo(slot, 0);
            goOn(memory);
        }

        private void begin() {
            fill(steps, 0, SLOTS, NONE);
            come = 0;
        }

        private void comeTo(int slot, int ways) {
            if (steps[slot] != NONE || come >= SLOTS) return;
            steps[slot] = ways;
            order[come] = slot;
            come++;
        }

        private void goOn(Memory memory) {
            for (int i = 0; i < SLOTS && i < come; i++) {
                int slot = order[i];
                int low = memory.blocks.low[slot];
                for (int cell = low; cell < low + memory.blocks.size[slot]; cell++) {
                    int next = memory.blocks.liveSlotOf(memory.cells[cell]);
                    if (next != NONE) comeTo(next, steps[slot] + 1);
                }
            }
        }
    }

    /** The blocks that a plan has placed so far. */
    private static final class Planned {
        int many;
        private final int[] low = new int[LONGEST_ROW];
        /** 0: it is gone. */
        private final int[] size = new int[LONGEST_ROW];

        boolean putOn(Ground ground, int at, int length) {
            if (many >= LONGEST_ROW) return false;
            low[many] = at;
            size[many] = length;
            many++;
            // Which slot's they are does not matter: no plan's block has one.
            ground.take(at, length, SLOTS);
            return true;
        }

        /** The element is the block's number among the placed ones, from -1 on down. */
        boolean dropFrom(Ground ground, int element) {
            if (element >= 0 || element < -many) return false;
            int k = -1 - element;
            if (size[k] == 0) return false;
            ground.release(low[k], size[k]);
            size[k] = 0;
            return true;
        }
    }

    /** The bytes that were fed, and the lines that are read from them. */
    private static final class Tape {
        int many;
        private final int[] bytes = new int[TAPE_BYTES];
        /** The next byte to read; behind a fault of form, the first with which no text goes on. */
        int at;
        int lines;
        final int[] letter = new int[MOST_LINES];
        private final int[] numbers = new int[MOST_LINES * MOST_NUMBERS];

        boolean append(int b) {
            if (many >= TAPE_BYTES) return false;
            bytes[many] = b;
            many++;
            return true;
        }

        int number(int line, int k) {
            return numbers[MOST_NUMBERS * line + k];
        }

        boolean hasForm() {
            at = 0;
            lines = 0;
            for (int i = 0; i < MOST_LINES; i++) {
                if (!readLine()) return false;
                if (at == many) return true;
                if (!readSign(';')) return false;
            }
            return false;
        }

        private boolean readLine() {
            int wanted = numbersBehind(nextByte());
            if (wanted == NONE) return false;
            letter[lines] = nextByte();
            at++;
            for (int k = 0; k < wanted; k++) {
                if (!readSign(' ') || !readNumber(MOST_NUMBERS * lines + k)) return false;
            }
            lines++;
            return true;
        }

        private boolean readSign(int sign) {
            if (nextByte() != sign) return false;
            at++;
            return true;
        }

        private boolean readNumber(int place) {
            int digits = 0;
            int value = 0;
            while (digits < 3 && nextByte() >= '0' && nextByte() <= '9') {
                value = 10 * value + nextByte() - '0';
                at++;
                digits++;
            }
            numbers[place] = value;
            return digits > 0;
        }

        /** NONE behind the last one. */
        private int nextByte() {
            return at >= 0 && at < many && at < TAPE_BYTES ? bytes[at] : NONE;
        }

        /** How many numbers stand in a line that begins with a letter; NONE: no line does. */
        private static int numbersBehind(int letter) {
            switch (letter) {
                case 'e': return 0;
                case 'f': case 'p': case 'u': case 'i': case 'o': return 1;
                case 'r': case 'm': return 2;
                case 'b': case 't': return 3;
                default: return NONE;
            }
        }
    }

    /** What each holder holds; the items of all rows lie in one array, so that a new row makes nothing. */
    private static final class Holders {
        final int[] sort = new int[HOLDERS];
        final int[] handle = new int[HOLDERS];
        final int[] size = new int[HOLDERS];
        private final int[] items = new int[HOLDERS * LONGEST_ROW];

        /** What a call answers that wants a row of a holder; 0 if he holds one. */
        int faultAsRow(int holder) {
            if (sort[holder] == HOLDS_ROW) return 0;
            return sort[holder] == HOLDS_NOTHING ? NOTHING_THERE : ANOTHER_SORT;
        }

        void takeRow(int holder, int n) {
            sort[holder] = HOLDS_ROW;
            size[holder] = n;
            fill(items, LONGEST_ROW * holder, n, 0);
        }

        boolean hasItem(int holder, int i) {
            return sort[holder] == HOLDS_ROW && i >= 0 && i < size[holder];
        }

        int item(int holder, int i) {
            return items[LONGEST_ROW * holder + i];
        }

        void setItem(int holder, int i, int v) {
            items[LONGEST_ROW * holder + i] = v;
        }

        int manyHolding() {
            int many = 0;
            for (int holder = 0; holder < HOLDERS; holder++) {
                if (sort[holder] != HOLDS_NOTHING) many++;
            }
            return many;
        }
    }
}
