import java.util.ArrayList;
import java.util.List;
import java.util.function.Consumer;

/**
 * All that the calls tell of the object to which a way of calls leads. Each group of looks has an object of its own,
 * so that none is used for more than 512 calls.
 */
final class Looks {
    private static final int MOST_CALLS = 400;
    private static final List<Consumer<Looks>> GROUPS = List.of(
        Looks::inAll, Looks::places, Looks::slots, Looks::cells, Looks::peeks, Looks::paths, Looks::holders,
        Looks::tapeAndReaders, Looks::rooms, Looks::plans,
        looks -> looks.ofTheImage(Looks::inAll), looks -> looks.ofTheImage(Looks::places),
        looks -> looks.ofTheImage(Looks::slots), looks -> looks.ofTheImage(Looks::cells),
        looks -> looks.ofTheImage(Looks::peeks), looks -> looks.ofTheImage(Looks::tapeAndReaders));

    private final RegionHandles x = new RegionHandles();
    private final List<String> told = new ArrayList<>();

    private Looks() {
    }

    static List<String> behind(Consumer<RegionHandles> way) {
        List<String> all = new ArrayList<>();
        for (Consumer<Looks> group : GROUPS) {
            Looks looks = new Looks();
            way.accept(looks.x);
            group.accept(looks);
            if (looks.told.size() > MOST_CALLS) throw new IllegalStateException("too many calls in one group");
            all.addAll(looks.told);
        }
        return all;
    }

    /** Null, or the first look that is not the same. */
    static String difference(List<String> first, List<String> other) {
        for (int i = 0; i < first.size() && i < other.size(); i++) {
            if (!first.get(i).equals(other.get(i))) return first.get(i) + " has become " + other.get(i);
        }
        return first.size() == other.size() ? null : first.size() + " looks have become " + other.size();
    }

    private int tell(String look, int answer) {
        told.add(look + " = " + answer);
        return answer;
    }

    private void inAll() {
        for (int what = 0; what < 8; what++) tell("count " + what, x.count(what));
        for (int what = 0; what < 3; what++) tell("epochs " + what, x.epochs(what));
        for (int owner = 0; owner < 10; owner++) {
            for (int what = 0; what < 4; what++) tell("owner " + owner + " " + what, x.owner(owner, what));
        }
        for (int k = 0; k < 31; k++) {
            int tag = tell("tagged " + k, x.tagged(k));
            if (tag >= 0) tell("find " + tag, x.find(tag));
        }
        for (int k = -1; k < 31; k++) tell("leaked " + k, x.leaked(k));
    }

    private void places() {
        for (int cell = 0; cell < 240; cell++) tell("lies " + cell, x.lies(cell));
    }

    private void slots() {
        for (int slot = 0; slot < 30; slot++) {
            for (int what = 1; what < 4; what++) tell("slot " + slot + " " + what, x.slot(slot, what));
            int handle = tell("slot " + slot, x.slot(slot, 0));
            if (handle < 0) continue;
            for (int what = 0; what < 6; what++) tell("of " + handle + " " + what, x.of(handle, what));
        }
    }

    private void cells() {
        for (int slot = 0; slot < 30; slot++) {
            int handle = tell("slot " + slot, x.slot(slot, 0));
            if (handle < 0) continue;
            for (int i = 0; i < 41; i++) {
                if (tell("read " + handle + " " + i, x.read(handle, i)) == RegionHandles.VOID) break;
            }
        }
    }

    /** Of the doomed ones alone: of the others it is the same as what is read. */
    private void peeks() {
        for (int slot = 0; slot < 30; slot++) {
            int handle = 100 * tell("generation " + slot, x.slot(slot, 1)) + slot;
            if (tell("doomed " + slot, x.slot(slot, 2)) == 0) continue;
            for (int reader = 0; reader < 6; reader++) {
                for (int i = 0; i < 41; i++) {
                    int seen = tell("peek " + reader + " " + handle + " " + i, x.peek(reader, handle, i));
                    if (seen == RegionHandles.VOID) break;
                }
            }
        }
    }

    private void paths() {
        List<Integer> handles = new ArrayList<>();
        for (int slot = 0; slot < 30 && handles.size() < 12; slot++) {
            int handle = tell("slot " + slot, x.slot(slot, 0));
            if (handle >= 0) handles.add(handle);
        }
        for (int from : handles) {
            for (int to : handles) tell("path " + from + " " + to, x.path(from, to));
        }
    }

    private void holders() {
        for (int holder = 0; holder < 6; holder++) {
            for (int as = 0; as < 4; as++) tell("tells " + holder + " " + as, x.tells(holder, as));
            for (int i = 0; i < 61; i++) {
                if (tell("put " + holder + " " + i, x.put(holder, i, 0)) == RegionHandles.VOID) break;
            }
        }
    }

    private void tapeAndReaders() {
        tell("bytes", x.count(6));
        tell("script", x.script());
        for (int what = 0; what < 7; what++) tell("count " + what + " behind the script", x.count(what));
        for (int reader = 0; reader < 6; reader++) tell("leave " + reader, x.leave(reader));
        tell("advance", x.advance());
    }

    private void rooms() {
        for (int region = 0; region < 6; region++) {
            for (int length = 1; length < 41; length += 13) {
                tell("would " + region + " " + length, x.would(region, length, 0));
                tell("least " + region + " " + length, x.least(region, length));
            }
            for (int what = 1; what < 4; what++) tell("would " + region + " what " + what, x.would(region, 1, what));
        }
    }

    private void plans() {
        for (int holder = 0; holder < 6; holder++) {
            for (int region = 0; region < 6; region++) tell("plan " + holder + " " + region, x.plan(holder, region));
        }
        for (int slot = 0; slot < 30; slot++) {
            int handle = 100 * tell("generation " + slot, x.slot(slot, 1)) + slot;
            if (handle < 100) continue;
            for (int holder = 0; holder < 6; holder++) tell("told " + holder + " " + handle, x.told(holder, handle));
        }
    }

    private void ofTheImage(Consumer<Looks> group) {
        if (tell("back", x.back()) >= 0) group.accept(this);
    }
}
