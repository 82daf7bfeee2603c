import java.util.ArrayList;
import java.util.Comparator;
import java.util.List;
import java.util.regex.Matcher;
import java.util.regex.Pattern;

/** The document once more, by its words and without a thought of speed: what ModelTest compares with. */
final class Model {
    static final int BAD = -1, NOT = -2, FULL = -3, STALE = -4, STATE = -5, QUOTA = -6, VOID = -2000000000;

    static final class Block {
        int slot, generation, region, low, length, owner, pins, doomedBy;
        boolean live = true;
        Integer tag;

        Block copy() {
            Block b = new Block();
            b.slot = slot;
            b.generation = generation;
            b.region = region;
            b.low = low;
            b.length = length;
            b.owner = owner;
            b.pins = pins;
            b.doomedBy = doomedBy;
            b.live = live;
            b.tag = tag;
            return b;
        }

        int handle() {
            return 100 * generation + slot;
        }
    }

    static final class World {
        int[] cells = new int[240];
        List<int[]> regions = new ArrayList<>();
        List<Block> blocks = new ArrayList<>();
        int[] generations = new int[30];
        List<Integer> tags = new ArrayList<>();
        int[] quotas = new int[10];
        Integer[] readers = new Integer[6];
        int epoch = 0;

        World copy() {
            World w = new World();
            w.cells = cells.clone();
            for (int[] r : regions) w.regions.add(r.clone());
            for (Block b : blocks) w.blocks.add(b.copy());
            w.generations = generations.clone();
            w.tags.addAll(tags);
            w.quotas = quotas.clone();
            w.readers = readers.clone();
            w.epoch = epoch;
            return w;
        }

        Block at(int cell) {
            for (Block b : blocks) if (cell >= b.low && cell < b.low + b.length) return b;
            return null;
        }

        Block inSlot(int slot) {
            for (Block b : blocks) if (b.slot == slot) return b;
            return null;
        }

        Block good(int handle) {
            for (Block b : blocks) if (b.live && b.handle() == handle) return b;
            return null;
        }

        Block withTag(int tag) {
            for (Block b : blocks) if (b.tag != null && b.tag == tag) return b;
            return null;
        }

        int used(int owner) {
            int n = 0;
            for (Block b : blocks) if (b.owner == owner) n += b.length;
            return n;
        }

        /** Each a low end and a length, from below. */
        List<int[]> freeRows(int region) {
            List<int[]> rows = new ArrayList<>();
            int[] r = regions.get(region);
            int[] row = null;
            for (int cell = r[0]; cell < r[0] + r[1]; cell++) {
                if (at(cell) != null) {
                    row = null;
                } else if (row == null) {
                    row = new int[] {cell, 1};
                    rows.add(row);
                } else {
                    row[1]++;
                }
            }
            return rows;
        }

        /** Null: nowhere. */
        Integer place(int region, int length) {
            Integer place = null;
            for (int[] row : freeRows(region)) {
                if (row[1] < length) continue;
                if (regions.get(region)[2] == 0) return row[0];
                place = row[0] + row[1] - length;
            }
            return place;
        }

        int moves(int region, int budget) {
            int[] r = regions.get(region);
            boolean below = r[2] == 0;
            List<Block> order = new ArrayList<>();
            for (Block b : blocks) if (b.region == region) order.add(b);
            order.sort(Comparator.comparingInt(b -> below ? b.low : -b.low));
            int left = budget;
            int edge = below ? r[0] : r[0] + r[1];
            for (Block b : order) {
                int goal = below ? edge : edge - b.length;
                if (b.live && b.pins == 0 && goal != b.low) {
                    if (b.length > left) break;
                    left -= b.length;
                    int[] content = content(b);
                    b.low = goal;
                    for (int i = 0; i < b.length; i++) cells[b.low + i] = content[i];
                }
                edge = below ? b.low + b.length : b.low;
            }
            return budget - left;
        }

        int[] content(Block b) {
            int[] content = new int[b.length];
            for (int i = 0; i < b.length; i++) content[i] = cells[b.low + i];
            return content;
        }

        boolean freeable(Block b) {
            if (b.live) return false;
            for (Integer since : readers) if (since != null && since <= b.doomedBy) return false;
            return true;
        }

        boolean holds(Block from, Block to) {
            for (int v : content(from)) if (v == to.handle()) return true;
            return false;
        }

        List<Block> liveBySlots() {
            List<Block> live = new ArrayList<>();
            for (int slot = 0; slot < 30; slot++) {
                Block b = inSlot(slot);
                if (b != null && b.live) live.add(b);
            }
            return live;
        }

        List<Block> leaked() {
            List<Block> live = liveBySlots();
            List<Block> reached = new ArrayList<>();
            for (Block b : live) if (b.tag != null || b.pins > 0) reached.add(b);
            for (boolean more = true; more; ) {
                more = false;
                for (Block b : live) {
                    if (reached.contains(b)) continue;
                    boolean held = false;
                    for (Block r : reached) held |= holds(r, b);
                    if (held) {
                        reached.add(b);
                        more = true;
                    }
                }
            }
            live.removeAll(reached);
            return live;
        }
    }

    World w = new World();
    World kept = null;
    StringBuilder tape = new StringBuilder();
    /** Null, an Integer (a handle) or an int[] (a row). */
    Object[] held = new Object[6];

    Model() {
        java.util.Arrays.fill(w.quotas, 240);
    }

    private boolean hasRegion(int region) {
        return region >= 0 && region < w.regions.size();
    }

    private static boolean in(int v, int low, int high) {
        return v >= low && v <= high;
    }

    int region(int length, int way) {
        if (!in(length, 8, 120) || !in(way, 0, 1)) return BAD;
        int low = 0;
        for (int[] r : w.regions) low += r[1];
        if (w.regions.size() == 6 || low + length > 240) return FULL;
        w.regions.add(new int[] {low, length, way});
        return w.regions.size() - 1;
    }

    int block(int region, int length, int owner) {
        if (!hasRegion(region) || !in(length, 1, 40) || !in(owner, 0, 9)) return BAD;
        if (w.used(owner) + length > w.quotas[owner]) return QUOTA;
        int slot = 0;
        while (slot < 30 && w.inSlot(slot) != null) slot++;
        Integer low = w.place(region, length);
        if (slot == 30 || low == null) return FULL;
        Block b = new Block();
        b.slot = slot;
        b.generation = ++w.generations[slot];
        b.region = region;
        b.low = low;
        b.length = length;
        b.owner = owner;
        w.blocks.add(b);
        for (int i = 0; i < length; i++) w.cells[low + i] = 0;
        return b.handle();
    }

    int free(int handle) {
        Block b = w.good(handle);
        if (b == null) return STALE;
        if (b.pins > 0) return STATE;
        b.live = false;
        b.doomedBy = w.epoch;
        w.tags.remove(b.tag);
        b.tag = null;
        return w.epoch;
    }

    int pin(int handle, int n) {
        if (n != 1 && n != -1) return BAD;
        Block b = w.good(handle);
        if (b == null) return STALE;
        if (!in(b.pins + n, 0, 9)) return STATE;
        return b.pins += n;
    }

    int grow(int handle, int n) {
        if (!in(n, 1, 39)) return BAD;
        Block b = w.good(handle);
        if (b == null) return STALE;
        if (b.pins > 0) return STATE;
        if (w.used(b.owner) + n > w.quotas[b.owner]) return QUOTA;
        if (b.length + n > 40) return FULL;
        int[] content = w.content(b);
        int[] r = w.regions.get(b.region);
        boolean here = b.low + b.length + n <= r[0] + r[1];
        for (int i = 0; here && i < n; i++) here = w.at(b.low + b.length + i) == null;
        if (!here) {
            Integer low = w.place(b.region, b.length + n);
            if (low == null) return FULL;
            b.low = low;
        }
        b.length += n;
        for (int i = 0; i < b.length; i++) w.cells[b.low + i] = i < content.length ? content[i] : 0;
        return b.length;
    }

    int moves(int region, int budget) {
        if (!hasRegion(region) || !in(budget, 0, 240)) return BAD;
        return w.moves(region, budget);
    }

    int write(int handle, int i, int v) {
        Block b = w.good(handle);
        if (b == null || !in(i, 0, b.length - 1)) return VOID;
        int old = w.cells[b.low + i];
        w.cells[b.low + i] = v;
        return old;
    }

    int read(int handle, int i) {
        Block b = w.good(handle);
        if (b == null || !in(i, 0, b.length - 1)) return VOID;
        return w.cells[b.low + i];
    }

    int peek(int reader, int handle, int i) {
        if (!in(reader, 0, 5) || w.readers[reader] == null) return VOID;
        for (Block b : w.blocks) {
            if (b.handle() != handle || !in(i, 0, b.length - 1)) continue;
            if (b.live || b.doomedBy >= w.readers[reader]) return w.cells[b.low + i];
        }
        return VOID;
    }

    int of(int handle, int what) {
        if (!in(what, 0, 5)) return BAD;
        Block b = w.good(handle);
        if (b == null) return STALE;
        int[] all = {b.low, b.length, b.region, b.owner, b.pins, b.tag == null ? NOT : b.tag};
        return all[what];
    }

    int slot(int slot, int what) {
        if (!in(slot, 0, 29) || !in(what, 0, 3)) return BAD;
        Block b = w.inSlot(slot);
        if (what == 0) return b != null && b.live ? b.handle() : NOT;
        if (what == 1) return w.generations[slot];
        if (what == 2) return b != null && !b.live ? 1 : 0;
        return b != null && !b.live ? b.doomedBy : NOT;
    }

    int lies(int cell) {
        if (!in(cell, 0, 239)) return BAD;
        Block b = w.at(cell);
        if (b != null) return b.slot;
        for (int[] r : w.regions) if (in(cell, r[0], r[0] + r[1] - 1)) return 100;
        return 101;
    }

    int tag(int handle, int tag) {
        if (!in(tag, 0, 499)) return BAD;
        Block b = w.good(handle);
        if (b == null) return STALE;
        Block other = w.withTag(tag);
        if (other != null && other != b) return STATE;
        w.tags.remove(b.tag);
        b.tag = tag;
        w.tags.add(tag);
        return w.tags.size();
    }

    int find(int tag) {
        if (!in(tag, 0, 499)) return BAD;
        Block b = w.withTag(tag);
        return b == null ? NOT : b.handle();
    }

    int tagged(int k) {
        if (k < 0) return BAD;
        return k < w.tags.size() ? w.tags.get(k) : NOT;
    }

    int quota(int owner, int n) {
        if (!in(owner, 0, 9) || !in(n, 0, 240)) return BAD;
        if (w.used(owner) > n) return STATE;
        int old = w.quotas[owner];
        w.quotas[owner] = n;
        return old;
    }

    int owner(int owner, int what) {
        if (!in(owner, 0, 9) || !in(what, 0, 3)) return BAD;
        if (what == 0) return w.used(owner);
        if (what == 1) return w.quotas[owner];
        int n = 0;
        if (what == 2) {
            for (Block b : w.leaked()) if (b.owner == owner) n += b.length;
        } else {
            for (Block b : w.blocks) if (b.live && b.owner == owner) n++;
        }
        return n;
    }

    int enter(int reader) {
        if (!in(reader, 0, 5)) return BAD;
        if (w.readers[reader] != null) return STATE;
        return w.readers[reader] = w.epoch;
    }

    int leave(int reader) {
        if (!in(reader, 0, 5)) return BAD;
        if (w.readers[reader] == null) return STATE;
        int since = w.readers[reader];
        w.readers[reader] = null;
        return since;
    }

    int advance() {
        w.epoch++;
        int before = w.blocks.size();
        w.blocks.removeIf(b -> w.freeable(b));
        return before - w.blocks.size();
    }

    int would(int region, int length, int what) {
        if (!hasRegion(region) || !in(what, 0, 3) || what == 0 && !in(length, 1, 40)) return BAD;
        if (what == 0) {
            Integer place = w.place(region, length);
            return place == null ? NOT : place;
        }
        int sum = 0;
        int longest = 0;
        for (int[] row : w.freeRows(region)) {
            sum += row[1];
            longest = Math.max(longest, row[1]);
        }
        return what == 1 ? sum : what == 2 ? longest : w.freeRows(region).size();
    }

    int least(int region, int length) {
        if (!hasRegion(region) || !in(length, 1, 40)) return BAD;
        for (int budget = 0; budget <= 240; budget++) {
            World thought = w.copy();
            thought.moves(region, budget);
            if (thought.place(region, length) != null) return budget;
        }
        return NOT;
    }

    int leaked(int k) {
        if (k < -1) return BAD;
        List<Block> leaked = w.leaked();
        if (k == -1) return leaked.size();
        return k < leaked.size() ? leaked.get(k).slot : NOT;
    }

    int path(int handle, int other) {
        Block from = w.good(handle);
        Block to = w.good(other);
        if (from == null || to == null) return STALE;
        List<Block> ring = new ArrayList<>(List.of(from));
        for (int ways = 0; ways < 30; ways++) {
            if (ring.contains(to)) return ways;
            for (Block b : w.liveBySlots()) {
                boolean held = false;
                for (Block r : new ArrayList<>(ring)) held |= w.holds(r, b);
                if (held && !ring.contains(b)) b.pins += 1000;
            }
            for (Block b : w.liveBySlots()) {
                if (b.pins < 1000) continue;
                b.pins -= 1000;
                ring.add(b);
            }
        }
        return NOT;
    }

    int epochs(int what) {
        if (!in(what, 0, 2)) return BAD;
        int freeable = 0;
        for (Block b : w.blocks) if (w.freeable(b)) freeable++;
        int holds = NOT;
        int bits = 0;
        for (int reader = 5; reader >= 0; reader--) {
            if (w.readers[reader] == null) continue;
            bits += 1 << reader;
            if (holds == NOT || w.readers[reader] <= w.readers[holds]) holds = reader;
        }
        return what == 0 ? freeable : what == 1 ? holds : bits;
    }

    int plan(int holder, int region) {
        if (!in(holder, 0, 5) || !hasRegion(region)) return BAD;
        if (held[holder] == null) return -11;
        if (!(held[holder] instanceof int[] row)) return -12;
        World thought = w.copy();
        List<Block> placed = new ArrayList<>();
        for (int i = 0; i < row.length; i++) {
            int n = row[i];
            if (n > 0) {
                Integer low = n > 40 ? null : thought.place(region, n);
                if (low == null) return i;
                Block b = new Block();
                b.low = low;
                b.length = n;
                placed.add(b);
                thought.blocks.add(b);
            } else {
                long k = -(long) n;
                if (k == 0 || k > placed.size()) return i;
                if (!thought.blocks.remove(placed.get((int) k - 1))) return i;
            }
        }
        return NOT;
    }

    int told(int holder, int handle) {
        if (!in(holder, 0, 5)) return BAD;
        if (held[holder] == null) return -11;
        if (!(held[holder] instanceof int[] row)) return -12;
        Block b = w.good(handle);
        if (b == null) return STALE;
        int[] content = w.content(b);
        for (int i = 0; i < row.length; i++) {
            if (i >= content.length || content[i] != row[i]) return i;
        }
        return content.length > row.length ? row.length : NOT;
    }

    int feed(int letter) {
        if (!in(letter, 0, 255)) return BAD;
        if (tape.length() == 120) return FULL;
        tape.append((char) letter);
        return tape.length();
    }

    private static final String N = " [0-9]{1,3}";
    private static final String LINE = "(?:[fpuio]" + N + "|[rm]" + N + N + "|[bt]" + N + N + N + "|e)";
    private static final Pattern TEXT = Pattern.compile(LINE + "(?:;" + LINE + ")*");

    int script() {
        String text = tape.toString();
        tape.setLength(0);
        if (!TEXT.matcher(text).matches()) {
            for (int n = 1; n <= text.length(); n++) {
                Matcher m = TEXT.matcher(text.substring(0, n));
                if (!m.matches() && !m.hitEnd()) return -1000 - (n - 1);
            }
            return -1000 - text.length();
        }
        World before = w.copy();
        String[] lines = text.split(";");
        for (int i = 0; i < lines.length; i++) {
            if (line(lines[i].split(" ")) < 0) {
                w = before;
                return -2000 - i;
            }
        }
        return lines.length;
    }

    private int line(String[] words) {
        int[] n = new int[4];
        for (int i = 1; i < words.length; i++) n[i] = Integer.parseInt(words[i]);
        Block b = w.inSlot(n[1]);
        int handle = b != null && b.live ? b.handle() : -7;
        switch (words[0]) {
            case "r": return region(n[1], n[2]);
            case "b": return block(n[1], n[2], n[3]);
            case "f": return free(handle);
            case "p": return pin(handle, 1);
            case "u": return pin(handle, -1);
            case "t": return n[2] > 4 || n[3] > 99 ? BAD : tag(handle, 100 * n[2] + n[3]);
            case "m": return moves(n[1], n[2]);
            case "i": return enter(n[1]);
            case "o": return leave(n[1]);
            default: return advance();
        }
    }

    int image() {
        kept = w.copy();
        return count(1);
    }

    int back() {
        if (kept == null) return STATE;
        w = kept.copy();
        return count(1);
    }

    int hold(int holder, int handle) {
        if (!in(holder, 0, 5)) return BAD;
        if (handle != -1 && w.good(handle) == null) return STALE;
        held[holder] = handle == -1 ? null : (Object) handle;
        return 1;
    }

    int row(int holder, int n) {
        if (!in(holder, 0, 5) || n > 60) return BAD;
        if (n < 0) return -14;
        held[holder] = new int[n];
        return 1;
    }

    int put(int holder, int i, int v) {
        if (!in(holder, 0, 5) || !(held[holder] instanceof int[] row)) return VOID;
        if (!in(i, 0, row.length - 1)) return VOID;
        int old = row[i];
        row[i] = v;
        return old;
    }

    int tells(int holder, int as) {
        if (!in(holder, 0, 5) || !in(as, 0, 3)) return BAD;
        if (held[holder] == null) return -11;
        if (!(held[holder] instanceof Integer handle)) return -12;
        if (as == 0) return handle / 100;
        Block b = w.good(handle);
        if (b == null) return -12;
        if (as == 1) return b.length;
        if (as == 2) return b.pins == 0 ? -12 : b.pins;
        return b.tag == null ? -12 : b.tag;
    }

    int count(int what) {
        int n = 0;
        switch (what) {
            case 0: return w.regions.size();
            case 1: return w.liveBySlots().size();
            case 2: return w.blocks.size() - w.liveBySlots().size();
            case 3: return w.tags.size();
            case 4: return w.epoch;
            case 5:
                for (Block b : w.blocks) n += b.length;
                return n;
            case 6: return tape.length();
            case 7:
                for (Object o : held) if (o != null) n++;
                return n;
            default: return BAD;
        }
    }
}
