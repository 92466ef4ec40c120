import java.util.ArrayList;
import java.util.List;
import java.util.function.Function;
import java.util.function.Supplier;
import java.util.function.ToIntFunction;

/**
 * Looks whether a call changed anything: of two objects made alike one has the call, and then both
 * must answer alike, whatever they are asked. Each probe has a pair of its own, as an object has but
 * 512 calls and a probe may change it.
 */
final class Twins {
    private static final List<Function<ShelfJudge, List<Integer>>> PROBES = List.of(
        Twins::rowOf, Twins::runOf, Twins::looksOf, Twins::toldOf, Twins::leastOf, Twins::pricesOf,
        Twins::endsOf);

    private Twins() {
    }

    static void unchanged(String what, Supplier<ShelfJudge> maker, ToIntFunction<ShelfJudge> call, int want) {
        for (int n = 0; n < PROBES.size(); n++) {
            ShelfJudge x = maker.get();
            Due.is(what, call.applyAsInt(x), want);
            List<Integer> got = PROBES.get(n).apply(x);
            List<Integer> twin = PROBES.get(n).apply(maker.get());
            Due.that(what + " changes nothing, probe " + n, got.equals(twin));
        }
    }

    private static List<Integer> rowOf(ShelfJudge x) {
        List<Integer> all = new ArrayList<>();
        for (int what = 0; what <= 3; what++) {
            all.add(x.many(what));
        }
        for (int i = 0; i <= 300; i++) {
            all.add(x.asked(i));
        }
        return all;
    }

    private static List<Integer> runOf(ShelfJudge x) {
        List<Integer> all = new ArrayList<>();
        all.add(x.paid());
        all.add(x.share());
        for (int i = 0; i < 300; i += i < 40 ? 1 : 3) {
            all.add(x.hit(i));
            all.add(x.gone(i));
        }
        all.add(x.copy());
        for (int way = 0; way <= 8; way++) {
            all.add(x.check(way, 3));
        }
        return all;
    }

    private static List<Integer> looksOf(ShelfJudge x) {
        List<Integer> all = new ArrayList<>();
        int last = x.many(0) - 1;
        int[] askings = {last, last / 2, 0};
        for (int i : askings) {
            for (int thing = 0; thing < 16; thing++) {
                for (int what = 0; what <= 5; what++) {
                    all.add(x.look(i, thing, what));
                }
            }
            for (int how = 0; how <= 4; how++) {
                all.add(x.level(i, how));
            }
        }
        return all;
    }

    private static List<Integer> toldOf(ShelfJudge x) {
        List<Integer> all = new ArrayList<>();
        all.add(x.many(2));
        for (int k = 1; k <= 8; k++) {
            all.add(x.cost(k));
            for (int way = 0; way <= 8; way++) {
                all.add(x.check(way, k));
            }
        }
        all.add(x.claim(3));
        all.add(x.cost(3));
        all.add(x.unclaim());
        all.add(x.claim(-1));
        return all;
    }

    private static List<Integer> leastOf(ShelfJudge x) {
        List<Integer> all = new ArrayList<>();
        for (int k = 1; k <= 8; k++) {
            all.add(x.least(k));
            all.add(x.phases(k));
            all.add(x.fewest(k));
            for (int i = 0; i < 15; i++) {
                all.add(x.goes(k, i));
                all.add(x.phase(k, i));
            }
        }
        for (int k = 0; k <= 16; k++) {
            all.add(x.curve(k));
            all.add(x.distance(k));
        }
        return all;
    }

    private static List<Integer> pricesOf(ShelfJudge x) {
        List<Integer> all = new ArrayList<>();
        for (int thing = 0; thing < 16; thing++) {
            all.add(x.cut(0));
            all.add(x.ask(thing, -1, -1, -1, -1));
            all.add(x.many(3));
        }
        return all;
    }

    /** What comes next to THE ROW comes to the same end of it, and meets the same TOLD GOINGS. */
    private static List<Integer> endsOf(ShelfJudge x) {
        List<Integer> all = new ArrayList<>();
        all.add(x.ask(15, 14, -1, -1, -1));
        all.add(x.draw(2, 16, 2));
        all.add(x.many(0));
        for (int i = 0; i <= 20; i++) {
            all.add(x.asked(i));
        }
        all.add(x.asked(298));
        all.add(x.asked(299));
        all.add(x.cost(8));
        all.add(x.check(8, 8));
        all.add(x.serve(8, 3));
        all.add(x.paid());
        return all;
    }
}
