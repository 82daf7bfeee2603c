import java.util.Random;

/** Runs of 512 calls by a fixed seed, each answer compared with the model's; the calls lean to what can be. */
public final class ModelTest {
    private static final int RUNS = 4000;
    private static final int CALLS = 512;
    private static final int[] EXTREMES = {
        Integer.MIN_VALUE, Integer.MIN_VALUE + 1, -2000000000, -241, -101, -100, -61, -41, -31, -30, -7, -6, -2, -1,
        0, 1, 2, 5, 6, 7, 8, 9, 10, 29, 30, 39, 40, 41, 59, 60, 61, 99, 100, 101, 119, 120, 121, 129, 130, 239, 240,
        241, 255, 256, 499, 500, 999, 3000, Integer.MAX_VALUE - 1, Integer.MAX_VALUE};

    /** How many calls the looks of each part of the state need at most; part 0 looks at nothing. */
    private static final int[] LOOKS = {0, 83, 240, 120, 210, 330, 300};

    /** How many calls stand between the run and the looks at most. */
    private static final int LAST_CALLS = 90;

    private final Random random;
    private final RegionHandles x = new RegionHandles();
    private final Model m = new Model();
    private final StringBuilder told = new StringBuilder();
    private final boolean wild;
    private final int longest;
    /** How freely a number strays from those that can be: once in so many. */
    private final int stray;
    /** Which part of the state is looked at when the run ends, and behind how many calls that is. */
    private final int part;
    private final int end;
    private int calls = 0;

    private ModelTest(int seed) {
        random = new Random(seed);
        wild = seed % 10 == 0;
        stray = wild ? 2 : 25;
        longest = seed % 3 == 0 ? 4 : seed % 3 == 1 ? 12 : 40;
        part = seed / 30 % LOOKS.length;
        end = part == 0 ? CALLS : CALLS - LOOKS[part] - LAST_CALLS - random.nextInt(80);
    }

    public static void main(String[] args) {
        int runs = args.length > 0 ? Integer.parseInt(args[0]) : RUNS;
        Check check = new Check();
        for (int seed = 0; seed < runs; seed++) {
            String fault = new ModelTest(seed).run();
            check.due("run by seed " + seed + (fault == null ? "" : ": " + fault), fault == null ? 0 : 1, 0);
        }
        check.end("ModelTest");
    }

    /** Null, or the call whose answer is not as due. */
    private String run() {
        while (calls < end) {
            told.setLength(0);
            int[] answers = wild && random.nextInt(3) == 0 ? anyCall(calls) : likelyCall(calls);
            if (answers[0] != answers[1]) {
                return "call " + calls + " " + told + " answered " + answers[0] + ", due is " + answers[1];
            }
        }
        if (part == 0) return null;
        int[] answers = lastCalls();
        String fault = answers[0] == answers[1] ? difference() : "answered " + answers[0] + ", due is " + answers[1];
        if (calls > CALLS) return calls + " calls of one object";
        return fault == null ? null : "behind call " + end + " " + told + ": " + fault;
    }

    /** What brings an earlier state again, or nothing. */
    private int[] lastCalls() {
        told.setLength(0);
        switch (random.nextInt(3)) {
            case 0: return say("back", x.back(), m.back());
            case 1: return refusedText();
            default: return new int[] {0, 0};
        }
    }

    private int[] refusedText() {
        if (m.count(6) > 0) say("script", x.script(), m.script());
        StringBuilder text = new StringBuilder();
        while (text.length() < 60) text.append(line()).append(';');
        text.append("f 99");
        return feedAndScript(text.toString());
    }

    private int upTo(int high) {
        if (random.nextInt(stray) == 0) return strayNumber();
        return random.nextInt(high + 1);
    }

    private int from(int low, int high) {
        if (random.nextInt(stray) == 0) return strayNumber();
        return low + random.nextInt(high - low + 1);
    }

    private int strayNumber() {
        return EXTREMES[random.nextInt(EXTREMES.length)];
    }

    private int regionNumber() {
        return upTo(Math.max(0, m.w.regions.size() - 1));
    }

    private int liveHandle() {
        if (m.w.blocks.isEmpty() || random.nextInt(stray) == 0) return strayNumber();
        Model.Block b = m.w.blocks.get(random.nextInt(m.w.blocks.size()));
        int off = random.nextInt(20) == 0 ? 100 : 0;
        return b.handle() - off;
    }

    private int tagNumber() {
        if (random.nextInt(stray) == 0) return strayNumber();
        return 100 * random.nextInt(5) + random.nextInt(4);
    }

    private int[] say(String call, int got, int due, int... numbers) {
        calls++;
        told.append(call);
        for (int n : numbers) told.append(' ').append(n);
        return new int[] {got, due};
    }

    private int[] likelyCall(int call) {
        if (call < 3) {
            int a = from(8, 120);
            int b = upTo(1);
            return say("region", x.region(a, b), m.region(a, b), a, b);
        }
        int kind = random.nextInt(100);
        if (kind < 18) return blockCall();
        if (kind < 45) return change();
        if (kind < 60) return cellCall();
        if (kind < 72) return look();
        if (kind < 86) return think();
        if (kind < 93) return textCall();
        return holderCall();
    }

    private int[] blockCall() {
        int a = regionNumber();
        int b = from(1, longest);
        int c = upTo(9);
        return say("block", x.block(a, b, c), m.block(a, b, c), a, b, c);
    }

    private int[] change() {
        int h = liveHandle();
        int r = upTo(5);
        switch (random.nextInt(15)) {
            case 0: case 1: case 2: return say("free", x.free(h), m.free(h), h);
            case 3: {
                int n = random.nextInt(3) == 0 ? 1 : -1;
                return say("pin", x.pin(h, n), m.pin(h, n), h, n);
            }
            case 4: case 5: {
                int n = from(1, longest);
                return say("grow", x.grow(h, n), m.grow(h, n), h, n);
            }
            case 6: {
                int a = regionNumber();
                int b = random.nextBoolean() ? upTo(20) : upTo(240);
                return say("moves", x.moves(a, b), m.moves(a, b), a, b);
            }
            case 7: case 8: {
                int t = tagNumber();
                return say("tag", x.tag(h, t), m.tag(h, t), h, t);
            }
            case 9: {
                int a = upTo(9);
                int n = random.nextBoolean() ? upTo(60) : upTo(240);
                return say("quota", x.quota(a, n), m.quota(a, n), a, n);
            }
            case 10: return say("enter", x.enter(r), m.enter(r), r);
            case 11: case 12: return say("leave", x.leave(r), m.leave(r), r);
            default: return say("advance", x.advance(), m.advance());
        }
    }

    private int[] cellCall() {
        int h = liveHandle();
        int i = random.nextBoolean() ? upTo(3) : upTo(longest);
        if (random.nextInt(3) > 0) {
            int v = random.nextInt(4) == 0 ? strayNumber() : liveHandle();
            return say("write", x.write(h, i, v), m.write(h, i, v), h, i, v);
        }
        if (random.nextBoolean()) return say("read", x.read(h, i), m.read(h, i), h, i);
        int r = upTo(5);
        return say("peek", x.peek(r, h, i), m.peek(r, h, i), r, h, i);
    }

    private int[] look() {
        int h = liveHandle();
        int what = upTo(7);
        switch (random.nextInt(8)) {
            case 0: return say("of", x.of(h, what), m.of(h, what), h, what);
            case 1: {
                int s = upTo(29);
                return say("slot", x.slot(s, what), m.slot(s, what), s, what);
            }
            case 2: {
                int c = upTo(239);
                return say("lies", x.lies(c), m.lies(c), c);
            }
            case 3: {
                int t = tagNumber();
                return say("find", x.find(t), m.find(t), t);
            }
            case 4: return say("tagged", x.tagged(what), m.tagged(what), what);
            case 5: {
                int a = upTo(9);
                return say("owner", x.owner(a, what), m.owner(a, what), a, what);
            }
            case 6: return say("epochs", x.epochs(what), m.epochs(what), what);
            default: return say("count", x.count(what), m.count(what), what);
        }
    }

    private int[] think() {
        int a = regionNumber();
        int b = from(1, 40);
        int h = liveHandle();
        int o = liveHandle();
        switch (random.nextInt(5)) {
            case 0: {
                int what = upTo(3);
                return say("would", x.would(a, b, what), m.would(a, b, what), a, b, what);
            }
            case 1: return say("least", x.least(a, b), m.least(a, b), a, b);
            case 2: {
                int k = from(-1, 5);
                return say("leaked", x.leaked(k), m.leaked(k), k);
            }
            case 3: return say("path", x.path(h, o), m.path(h, o), h, o);
            default: return random.nextBoolean() ? planCall() : toldCall();
        }
    }

    private int[] planCall() {
        int holder = upTo(5);
        if (holder >= 0 && holder < 6 && random.nextInt(8) > 0) {
            fillRow(holder, random.nextInt(20), true, -1);
        }
        int a = regionNumber();
        return say("plan", x.plan(holder, a), m.plan(holder, a), holder, a);
    }

    private int[] toldCall() {
        int holder = upTo(5);
        int h = liveHandle();
        if (holder >= 0 && holder < 6 && random.nextInt(8) > 0) {
            int length = Math.max(0, m.of(h, 1));
            fillRow(holder, Math.max(0, length - 2 + random.nextInt(4)), false, h);
        }
        return say("told", x.told(holder, h), m.told(holder, h), holder, h);
    }

    /** A row that the run has no calls left for is not made. */
    private void fillRow(int holder, int n, boolean plan, int h) {
        if (calls + n + 2 > end) return;
        calls += n + 1;
        x.row(holder, n);
        m.row(holder, n);
        for (int i = 0; i < n; i++) {
            int v = plan ? planElement(i) : random.nextInt(30) == 0 ? 3 : m.read(h, i);
            x.put(holder, i, v);
            m.put(holder, i, v);
        }
    }

    private int planElement(int i) {
        if (random.nextInt(60) == 0) return strayNumber();
        if (i > 0 && random.nextInt(3) == 0) return -1 - random.nextInt((i + 1) / 2 + 1);
        return 1 + random.nextInt(longest);
    }

    private int[] textCall() {
        String text = text();
        if (calls + text.length() + 1 > end) text = text.substring(0, end - calls - 1);
        return feedAndScript(text);
    }

    private int[] feedAndScript(String text) {
        calls += text.length();
        told.append('"').append(text).append("\" ");
        for (int i = 0; i < text.length(); i++) {
            int letter = text.charAt(i);
            int got = x.feed(letter);
            int due = m.feed(letter);
            if (got != due) return say("feed", got, due, letter);
        }
        return say("script", x.script(), m.script());
    }

    private String text() {
        StringBuilder text = new StringBuilder();
        int lines = 1 + random.nextInt(random.nextBoolean() ? 4 : 16);
        for (int i = 0; i < lines; i++) {
            if (i > 0) text.append(';');
            text.append(line());
        }
        if (random.nextInt(4) == 0) {
            int at = random.nextInt(text.length());
            String letters = "rbfputmioe  ;;0129x-\u0000\u00ff";
            char letter = letters.charAt(random.nextInt(letters.length()));
            int how = random.nextInt(4);
            if (how == 0) text.setCharAt(at, letter);
            else if (how == 1) text.deleteCharAt(at);
            else if (how == 2) text.insert(at, letter);
            else text.setLength(at);
        }
        return text.toString();
    }

    private String number(int high) {
        int n = random.nextInt(stray * 2) == 0 ? random.nextInt(1000) : random.nextInt(high + 1);
        int zeros = random.nextInt(10) == 0 ? 3 - String.valueOf(n).length() : 0;
        return " " + "0".repeat(zeros) + n;
    }

    private String slotNumber() {
        if (m.w.blocks.isEmpty() || random.nextInt(stray) == 0) return number(29);
        return " " + m.w.blocks.get(random.nextInt(m.w.blocks.size())).slot;
    }

    private String line() {
        String region = number(Math.max(0, m.w.regions.size() - 1));
        switch (random.nextInt(14)) {
            case 0: return "r" + number(120) + number(1);
            case 1: case 2: case 3: return "b" + region + number(longest) + number(9);
            case 4: case 5: return "f" + slotNumber();
            case 6: return "p" + slotNumber();
            case 7: return "u" + slotNumber();
            case 8: return "t" + slotNumber() + number(4) + number(99);
            case 9: case 10: return "m" + region + number(60);
            case 11: return "i" + number(5);
            case 12: return "o" + number(5);
            default: return "e";
        }
    }

    private int[] holderCall() {
        int holder = upTo(5);
        int h = random.nextInt(6) == 0 ? -1 : liveHandle();
        switch (random.nextInt(8)) {
            case 0: case 1: return say("hold", x.hold(holder, h), m.hold(holder, h), holder, h);
            case 2: {
                int n = upTo(60);
                return say("row", x.row(holder, n), m.row(holder, n), holder, n);
            }
            case 3: {
                int i = upTo(10);
                return say("put", x.put(holder, i, h), m.put(holder, i, h), holder, i, h);
            }
            case 4: return random.nextBoolean() ? say("count", x.count(7), m.count(7))
                : say("image", x.image(), m.image());
            case 5: return random.nextInt(3) > 0 ? say("count", x.count(1), m.count(1))
                : say("back", x.back(), m.back());
            default: {
                int as = upTo(3);
                return say("tells", x.tells(holder, as), m.tells(holder, as), holder, as);
            }
        }
    }

    /** Any numbers at all. */
    private int[] anyCall(int call) {
        int a = strayNumber();
        int b = strayNumber();
        int c = strayNumber();
        switch (random.nextInt(36)) {
            case 0: return say("region", x.region(a, b), m.region(a, b), a, b);
            case 1: return say("block", x.block(a, b, c), m.block(a, b, c), a, b, c);
            case 2: return say("free", x.free(a), m.free(a), a);
            case 3: return say("pin", x.pin(a, b), m.pin(a, b), a, b);
            case 4: return say("grow", x.grow(a, b), m.grow(a, b), a, b);
            case 5: return say("moves", x.moves(a, b), m.moves(a, b), a, b);
            case 6: return say("write", x.write(a, b, c), m.write(a, b, c), a, b, c);
            case 7: return say("read", x.read(a, b), m.read(a, b), a, b);
            case 8: return say("peek", x.peek(a, b, c), m.peek(a, b, c), a, b, c);
            case 9: return say("of", x.of(a, b), m.of(a, b), a, b);
            case 10: return say("slot", x.slot(a, b), m.slot(a, b), a, b);
            case 11: return say("lies", x.lies(a), m.lies(a), a);
            case 12: return say("tag", x.tag(a, b), m.tag(a, b), a, b);
            case 13: return say("find", x.find(a), m.find(a), a);
            case 14: return say("tagged", x.tagged(a), m.tagged(a), a);
            case 15: return say("quota", x.quota(a, b), m.quota(a, b), a, b);
            case 16: return say("owner", x.owner(a, b), m.owner(a, b), a, b);
            case 17: return say("enter", x.enter(a), m.enter(a), a);
            case 18: return say("leave", x.leave(a), m.leave(a), a);
            case 19: return say("advance", x.advance(), m.advance());
            case 20: return say("would", x.would(a, b, c), m.would(a, b, c), a, b, c);
            case 21: return say("least", x.least(a, b), m.least(a, b), a, b);
            case 22: return say("leaked", x.leaked(a), m.leaked(a), a);
            case 23: return say("path", x.path(a, b), m.path(a, b), a, b);
            case 24: return say("epochs", x.epochs(a), m.epochs(a), a);
            case 25: return say("plan", x.plan(a, b), m.plan(a, b), a, b);
            case 26: return say("told", x.told(a, b), m.told(a, b), a, b);
            case 27: return say("feed", x.feed(a), m.feed(a), a);
            case 28: return say("script", x.script(), m.script());
            case 29: return say("hold", x.hold(a, b), m.hold(a, b), a, b);
            case 30: return say("row", x.row(a, b), m.row(a, b), a, b);
            case 31: return say("put", x.put(a, b, c), m.put(a, b, c), a, b, c);
            case 32: return say("tells", x.tells(a, b), m.tells(a, b), a, b);
            case 33: return say("count", x.count(a), m.count(a), a);
            case 34: return call % 4 > 0 ? say("count", x.count(0), m.count(0)) : say("image", x.image(), m.image());
            default: return call % 4 > 0 ? say("count", x.count(0), m.count(0)) : say("back", x.back(), m.back());
        }
    }

    /** Null, or the first thing at which the two are not the same. */
    private String difference() {
        switch (part) {
            case 1: return differenceInAll();
            case 2: return differenceOfPlaces();
            case 3: return differenceOfSlots();
            case 4: return differenceOfBlocks();
            case 5: return differenceOfCells();
            case 6: return differenceOfDoomed();
            default: return null;
        }
    }

    private boolean differs(int got, int due) {
        calls++;
        return got != due;
    }

    private String differenceInAll() {
        for (int what = 0; what < 8; what++) {
            if (differs(x.count(what), m.count(what))) return "count " + what;
        }
        for (int k = 0; k <= m.count(3); k++) {
            if (differs(x.tagged(k), m.tagged(k))) return "tagged " + k;
        }
        for (int owner = 0; owner < 10; owner++) {
            for (int what = 0; what < 4; what++) {
                if (differs(x.owner(owner, what), m.owner(owner, what))) return "owner " + owner + " " + what;
            }
        }
        for (int what = 0; what < 3; what++) {
            if (differs(x.epochs(what), m.epochs(what))) return "epochs " + what;
        }
        return null;
    }

    private String differenceOfPlaces() {
        for (int cell = 0; cell < 240; cell++) {
            if (differs(x.lies(cell), m.lies(cell))) return "lies " + cell;
        }
        return null;
    }

    private String differenceOfSlots() {
        for (int slot = 0; slot < 30; slot++) {
            for (int what = 0; what < 4; what++) {
                if (differs(x.slot(slot, what), m.slot(slot, what))) return "slot " + slot + " " + what;
            }
        }
        return null;
    }

    private String differenceOfBlocks() {
        for (int slot = 0; slot < 30; slot++) {
            int h = m.slot(slot, 0);
            if (differs(x.slot(slot, 0), h)) return "slot " + slot;
            for (int what = 0; what < 6; what++) {
                if (differs(x.of(h, what), m.of(h, what))) return "of " + h + " " + what;
            }
        }
        return null;
    }

    private String differenceOfCells() {
        for (int slot = 0; slot < 30; slot++) {
            int h = m.slot(slot, 0);
            for (int i = 0; i <= Math.max(0, m.of(h, 1)); i++) {
                if (differs(x.read(h, i), m.read(h, i))) return "read " + h + " " + i;
            }
        }
        return null;
    }

    private String differenceOfDoomed() {
        for (Model.Block b : m.w.blocks) {
            if (b.live) continue;
            int h = b.handle();
            for (int i = 0; i <= b.length; i++) {
                int reader = (h + i) % 6;
                if (differs(x.peek(reader, h, i), m.peek(reader, h, i))) return "peek " + reader + " " + h + " " + i;
            }
        }
        return null;
    }
}
