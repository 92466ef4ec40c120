import java.util.ArrayList;
import java.util.Arrays;
import java.util.Collections;
import java.util.HashMap;
import java.util.List;
import java.util.Map;
import java.util.TreeSet;

/**
 * The document once more, by lists and sets and as slowly as it likes: what the class answers is
 * compared with it. It shares no thought with the class but the document's words.
 */
final class NaiveJudge {
    private final int[] prices = new int[16];
    private List<Integer> row = new ArrayList<>();
    private List<Integer> told = new ArrayList<>();
    private NaiveRun run = null;

    NaiveJudge() {
        Arrays.fill(prices, 1);
    }

    private static boolean in(int x, int from, int to) {
        return x >= from && x <= to;
    }

    int price(int thing, int price) {
        if (!in(thing, 0, 15) || !in(price, 1, 1000)) {
            return -1;
        }
        prices[thing] = price;
        run = null;
        return 1;
    }

    int ask(int a, int b, int c, int d, int e) {
        List<Integer> all = new ArrayList<>(List.of(a, b, c, d, e));
        int end = all.indexOf(-1);
        List<Integer> more = end < 0 ? all : all.subList(0, end);
        for (int thing : more) {
            if (!in(thing, 0, 15)) {
                return -1;
            }
        }
        return append(more);
    }

    private int append(List<Integer> more) {
        if (row.size() + more.size() > 300) {
            return -2;
        }
        row.addAll(more);
        run = null;
        return row.size();
    }

    int draw(int n, int m, int seed) {
        if (!in(n, 0, 300) || !in(m, 1, 16)) {
            return -1;
        }
        List<Integer> more = new ArrayList<>();
        long x = seed;
        for (int j = 0; j < n; j++) {
            x = (1103515245L * x + 12345L) & 0xffffffffL;
            more.add((int) (x / 65536 % m));
        }
        return append(more);
    }

    int change(int i, int thing) {
        if (!in(i, 0, row.size() - 1) || !in(thing, 0, 15)) {
            return -1;
        }
        row.set(i, thing);
        run = null;
        return 1;
    }

    int cut(int n) {
        if (!in(n, 0, row.size())) {
            return -1;
        }
        row = new ArrayList<>(row.subList(0, n));
        run = null;
        return n;
    }

    int asked(int i) {
        return in(i, 0, row.size() - 1) ? row.get(i) : -1;
    }

    int many(int what) {
        switch (what) {
            case 0: return row.size();
            case 1: return new TreeSet<>(row).size();
            case 2: return told.size();
            case 3: return row.stream().mapToInt(thing -> prices[thing]).sum();
            default: return -1;
        }
    }

    int serve(int way, int k) {
        if (!in(way, 0, 8) || !in(k, 1, 8)) {
            return -1;
        }
        run = new NaiveRun(way, k, row, prices);
        return run.misses();
    }

    int paid() {
        return run == null ? -3 : run.paid();
    }

    int hit(int i) {
        return run == null ? -3 : in(i, 0, row.size() - 1) ? run.stands.get(i).hit ? 1 : 0 : -1;
    }

    int gone(int i) {
        return run != null && in(i, 0, row.size() - 1) ? run.stands.get(i).gone : -1;
    }

    int look(int i, int thing, int what) {
        if (run == null) {
            return -3;
        }
        if (!in(i, 0, row.size() - 1) || !in(thing, 0, 15) || !in(what, 0, 5)) {
            return Integer.MIN_VALUE;
        }
        NaiveRun.Stand s = run.stands.get(i);
        boolean lies = s.counts.containsKey(thing);
        int other = Integer.MIN_VALUE + 1;
        switch (what) {
            case 0: return lies ? 1 : 0;
            case 1: return s.counts.getOrDefault(thing, 0);
            case 2: return run.way == 2 || run.way == 3 ? s.marked.contains(thing) ? 1 : 0 : other;
            case 3: return run.way == 3 ? s.places.indexOf(thing) : other;
            case 4: return run.way == 5 || run.way == 6 ? s.partOf(thing) : other;
            default: return run.way == 7 ? lies ? s.credits.get(thing) : 0 : other;
        }
    }

    int level(int i, int how) {
        if (run == null) {
            return -3;
        }
        if (!in(i, 0, row.size() - 1) || !in(how, 0, 4)) {
            return Integer.MIN_VALUE;
        }
        NaiveRun.Stand s = run.stands.get(i);
        int other = Integer.MIN_VALUE + 1;
        switch (how) {
            case 0: return s.counts.size();
            case 1: return run.way == 2 ? s.rounds : other;
            case 2: return run.way == 3 ? s.hand : other;
            case 3: return run.way == 6 ? s.share : other;
            default: return run.way == 7 ? s.level : other;
        }
    }

    int fewest(int k) {
        if (!in(k, 1, 8)) {
            return -1;
        }
        List<Integer> misses = new ArrayList<>();
        for (int way = 0; way < 8; way++) {
            misses.add(new NaiveRun(way, k, row, prices).misses());
        }
        return misses.indexOf(Collections.min(misses));
    }

    int share() {
        if (run == null) {
            return -3;
        }
        if (row.isEmpty()) {
            return -1;
        }
        int hits = row.size() - run.misses();
        return (int) (((float) hits / row.size()) * 10000);
    }

    int least(int k) {
        if (!in(k, 1, 8)) {
            return -1;
        }
        if (many(1) > 10) {
            return -5;
        }
        return leastFrom(0, new TreeSet<>(), k, new HashMap<>());
    }

    private int leastFrom(int i, TreeSet<Integer> shelf, int k, Map<String, Integer> known) {
        if (i == row.size()) {
            return 0;
        }
        String name = i + ":" + shelf;
        Integer already = known.get(name);
        if (already != null) {
            return already;
        }
        int thing = row.get(i);
        int best = Integer.MAX_VALUE;
        if (shelf.contains(thing)) {
            best = leastFrom(i + 1, shelf, k, known);
        } else if (shelf.size() < k) {
            best = prices[thing] + leastFrom(i + 1, with(shelf, thing, -1), k, known);
        } else {
            for (int goes : shelf) {
                best = Math.min(best,
                    prices[thing] + leastFrom(i + 1, with(shelf, thing, goes), k, known));
            }
        }
        known.put(name, best);
        return best;
    }

    private static TreeSet<Integer> with(TreeSet<Integer> shelf, int comes, int goes) {
        TreeSet<Integer> then = new TreeSet<>(shelf);
        then.remove(goes);
        then.add(comes);
        return then;
    }

    int goes(int k, int i) {
        if (!in(i, 0, row.size() - 1) || least(k) < 0) {
            return -1;
        }
        return goings(k).get(i);
    }

    List<Integer> goings(int k) {
        Map<String, Integer> known = new HashMap<>();
        TreeSet<Integer> shelf = new TreeSet<>();
        List<Integer> goings = new ArrayList<>();
        for (int i = 0; i < row.size(); i++) {
            int thing = row.get(i);
            int goes = -1;
            if (!shelf.contains(thing) && shelf.size() == k) {
                int due = leastFrom(i, shelf, k, known);
                for (int one : shelf) {
                    int then = prices[thing] + leastFrom(i + 1, with(shelf, thing, one), k, known);
                    if (goes < 0 && then == due) {
                        goes = one;
                    }
                }
            }
            goings.add(goes);
            shelf = with(shelf, thing, goes);
        }
        return goings;
    }

    int phases(int k) {
        if (!in(k, 1, 8)) {
            return -1;
        }
        return row.isEmpty() ? 0 : phase(k, row.size() - 1) + 1;
    }

    int phase(int k, int i) {
        if (!in(k, 1, 8) || !in(i, 0, row.size() - 1)) {
            return -1;
        }
        int number = -1;
        int from = 0;
        while (from <= i) {
            int to = from;
            while (to < row.size() && new TreeSet<>(row.subList(from, to + 1)).size() <= k) {
                to++;
            }
            number++;
            from = to;
        }
        return number;
    }

    int distance(int i) {
        if (!in(i, 0, row.size() - 1)) {
            return -1;
        }
        int earlier = row.subList(0, i).lastIndexOf(row.get(i));
        return earlier < 0 ? 0 : new TreeSet<>(row.subList(earlier + 1, i + 1)).size();
    }

    int curve(int k) {
        if (k < 0) {
            return -1;
        }
        int n = 0;
        for (int i = 0; i < row.size(); i++) {
            n += distance(i) == 0 || distance(i) > k ? 1 : 0;
        }
        return n;
    }

    int hard(int way, int k, int n) {
        if (!in(way, 0, 8) || !in(k, 1, 8) || !in(n, 0, 300)) {
            return -1;
        }
        if (way == 8) {
            return -4;
        }
        NaiveRun made = new NaiveRun(way, k, new ArrayList<>(), prices);
        for (int j = 0; j < n; j++) {
            int thing = 0;
            while (made.now.counts.containsKey(thing)) {
                thing++;
            }
            made.row.add(thing);
            made.serveNext();
        }
        row = made.row;
        run = null;
        return n;
    }

    int claim(int thing) {
        if (!in(thing, -1, 15)) {
            return -1;
        }
        if (told.size() == 300) {
            return -2;
        }
        told.add(thing);
        return told.size();
    }

    int copy() {
        if (run == null) {
            return -3;
        }
        told = run.goings();
        return told.size();
    }

    int unclaim() {
        int n = told.size();
        told = new ArrayList<>();
        return n;
    }

    int cost(int k) {
        if (!in(k, 1, 8)) {
            return -1;
        }
        TreeSet<Integer> shelf = new TreeSet<>();
        int sum = 0;
        for (int i = 0; i < Math.max(row.size(), told.size()); i++) {
            if (i >= row.size() || i >= told.size()) {
                return -2 - i;
            }
            int thing = row.get(i);
            int goes = told.get(i);
            boolean hit = shelf.contains(thing);
            boolean free = shelf.size() < k;
            if (goes != -1 && (hit || free || !shelf.contains(goes)) || goes == -1 && !hit && !free) {
                return -2 - i;
            }
            sum += hit ? 0 : prices[thing];
            shelf = with(shelf, thing, goes);
        }
        return sum;
    }

    int check(int way, int k) {
        if (!in(way, 0, 8) || !in(k, 1, 8)) {
            return -2;
        }
        List<Integer> due = new NaiveRun(way, k, row, prices).goings();
        if (due.equals(told)) {
            return -1;
        }
        int i = 0;
        while (i < due.size() && i < told.size() && due.get(i).equals(told.get(i))) {
            i++;
        }
        return i;
    }
}
