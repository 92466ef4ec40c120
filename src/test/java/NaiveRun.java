import java.util.ArrayList;
import java.util.Collections;
import java.util.List;
import java.util.Map;
import java.util.TreeMap;
import java.util.TreeSet;

/** A row served by a way, with all that stood behind each asking kept. */
final class NaiveRun {
    /** All that is to be told of one moment. Lists are in the order that the way goes by. */
    static final class Stand {
        boolean hit;
        int gone = -1;
        Map<Integer, Integer> counts = new TreeMap<>();
        List<Integer> byComing = new ArrayList<>();
        List<Integer> byRest = new ArrayList<>();
        TreeSet<Integer> marked = new TreeSet<>();
        List<Integer> places = new ArrayList<>();
        List<Integer> once = new ArrayList<>();
        List<Integer> twice = new ArrayList<>();
        List<Integer> book = new ArrayList<>();
        List<Integer> secondBook = new ArrayList<>();
        Map<Integer, Integer> credits = new TreeMap<>();
        int rounds;
        int hand;
        int share;
        int level;

        Stand next() {
            Stand s = new Stand();
            s.counts.putAll(counts);
            s.byComing.addAll(byComing);
            s.byRest.addAll(byRest);
            s.marked.addAll(marked);
            s.places.addAll(places);
            s.once.addAll(once);
            s.twice.addAll(twice);
            s.book.addAll(book);
            s.secondBook.addAll(secondBook);
            s.credits.putAll(credits);
            s.rounds = rounds;
            s.hand = hand;
            s.share = share;
            s.level = level;
            return s;
        }

        int partOf(int thing) {
            return once.contains(thing) ? 1 : twice.contains(thing) ? 2 : book.contains(thing) ? 3
                : secondBook.contains(thing) ? 4 : 0;
        }
    }

    final int way;
    final int k;
    final List<Integer> row;
    final int[] prices;
    final List<Stand> stands = new ArrayList<>();
    Stand now = new Stand();

    NaiveRun(int way, int k, List<Integer> row, int[] prices) {
        this.way = way;
        this.k = k;
        this.row = row;
        this.prices = prices;
        for (int i = 0; i < row.size(); i++) {
            serveNext();
        }
    }

    int misses() {
        int n = 0;
        for (Stand s : stands) {
            n += s.hit ? 0 : 1;
        }
        return n;
    }

    int paid() {
        int sum = 0;
        for (int i = 0; i < stands.size(); i++) {
            sum += stands.get(i).hit ? 0 : prices[row.get(i)];
        }
        return sum;
    }

    List<Integer> goings() {
        List<Integer> all = new ArrayList<>();
        for (Stand s : stands) {
            all.add(s.gone);
        }
        return all;
    }

    void serveNext() {
        int i = stands.size();
        Integer thing = row.get(i);
        Stand s = now.next();
        s.hit = s.counts.containsKey(thing);
        if (s.hit) {
            hit(s, thing);
        } else {
            miss(s, thing, i);
        }
        s.byRest.remove(thing);
        s.byRest.add(thing);
        s.credits.put(thing, s.level + prices[thing]);
        stands.add(s);
        now = s;
    }

    private void hit(Stand s, Integer thing) {
        s.counts.merge(thing, 1, Integer::sum);
        s.marked.add(thing);
        if (way == 5 || way == 6) {
            s.once.remove(thing);
            s.twice.remove(thing);
            s.twice.add(thing);
        }
    }

    private void miss(Stand s, Integer thing, int i) {
        boolean willBeInTwice = false;
        if (s.book.remove(thing)) {
            s.share = Math.min(k, s.share + 1);
            willBeInTwice = true;
        }
        if (s.secondBook.remove(thing)) {
            s.share = Math.max(0, s.share - 1);
            willBeInTwice = true;
        }
        int place = s.places.size();
        if (s.counts.size() == k) {
            Integer goes = choose(s, i);
            s.gone = goes;
            place = s.places.indexOf(goes);
            s.counts.remove(goes);
            s.byComing.remove(goes);
            s.byRest.remove(goes);
            s.marked.remove(goes);
            s.credits.remove(goes);
            s.places.set(place, thing);
        } else {
            s.places.add(thing);
        }
        s.counts.put(thing, 1);
        s.byComing.add(thing);
        if (way == 2) {
            s.marked.add(thing);
        }
        if (way == 5 || way == 6) {
            (willBeInTwice ? s.twice : s.once).add(thing);
        }
    }

    private Integer choose(Stand s, int i) {
        switch (way) {
            case 0:
                return s.byComing.get(0);
            case 1:
                return s.byRest.get(0);
            case 2:
                if (s.marked.containsAll(s.byRest)) {
                    s.marked.clear();
                    s.rounds++;
                }
                for (Integer thing : s.byRest) {
                    if (!s.marked.contains(thing)) {
                        return thing;
                    }
                }
                throw new IllegalStateException();
            case 3:
                while (s.marked.remove(s.places.get(s.hand))) {
                    s.hand = (s.hand + 1) % k;
                }
                Integer atHand = s.places.get(s.hand);
                s.hand = (s.hand + 1) % k;
                return atHand;
            case 4:
                return firstWithLeast(s.byRest, s.counts);
            case 5:
            case 6:
                return chooseOfParts(s);
            case 7:
                Integer cheapest = firstWithLeast(s.byRest, s.credits);
                s.level = s.credits.get(cheapest);
                return cheapest;
            default:
                return latestNext(s, i);
        }
    }

    private static Integer firstWithLeast(List<Integer> order, Map<Integer, Integer> by) {
        Integer best = order.get(0);
        for (Integer thing : order) {
            if (by.get(thing) < by.get(best)) {
                best = thing;
            }
        }
        return best;
    }

    private Integer chooseOfParts(Stand s) {
        int may = way == 5 ? k / 4 : s.share;
        if (s.once.size() > may || s.twice.isEmpty()) {
            Integer goes = s.once.remove(0);
            enter(s.book, goes);
            return goes;
        }
        for (Integer thing : s.byRest) {
            if (s.twice.remove(thing)) {
                if (way == 6) {
                    enter(s.secondBook, thing);
                }
                return thing;
            }
        }
        throw new IllegalStateException();
    }

    private void enter(List<Integer> book, Integer thing) {
        if (book.size() == k) {
            book.remove(0);
        }
        book.add(thing);
    }

    private Integer latestNext(Stand s, int i) {
        List<Integer> later = row.subList(i + 1, row.size());
        List<Integer> things = new ArrayList<>(s.counts.keySet());
        Collections.sort(things);
        Integer best = null;
        int bestNext = -1;
        for (Integer thing : things) {
            int next = later.contains(thing) ? later.indexOf(thing) : 1000;
            if (next > bestNext) {
                best = thing;
                bestNext = next;
            }
        }
        return best;
    }
}
