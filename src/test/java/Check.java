import java.util.IdentityHashMap;
import java.util.List;
import java.util.Map;
import java.util.function.Consumer;
import java.util.function.ToIntFunction;

/** Counts and prints the answers that are not as due. */
final class Check {
    private final Map<Consumer<RegionHandles>, List<String>> looked = new IdentityHashMap<>();
    private int right = 0;
    private int wrong = 0;

    void due(String call, long got, long want) {
        if (got == want) {
            right++;
            return;
        }
        wrong++;
        System.out.println(call + " answered " + got + ", due is " + want);
    }

    /** A call is due to answer so behind a way of calls, and to leave all as it was. */
    void unchanged(String call, Consumer<RegionHandles> way, ToIntFunction<RegionHandles> asked, int want) {
        RegionHandles x = new RegionHandles();
        way.accept(x);
        due(call, asked.applyAsInt(x), want);
        same(call + " (changes nothing)", looked.computeIfAbsent(way, Looks::behind),
            Looks.behind(way.andThen(y -> asked.applyAsInt(y))));
    }

    /** Two ways of calls are due to lead to the same. */
    void same(String what, Consumer<RegionHandles> way, Consumer<RegionHandles> other) {
        same(what, Looks.behind(way), Looks.behind(other));
    }

    private void same(String what, List<String> looks, List<String> others) {
        String fault = Looks.difference(looks, others);
        due(fault == null ? what : what + ": " + fault + ": this", fault == null ? 0 : 1, 0);
    }

    void end(String test) {
        System.out.println(test + ": " + right + " passed, " + wrong + " failed");
        if (wrong > 0 || right == 0) System.exit(1);
    }
}
