import java.util.ArrayList;
import java.util.Arrays;
import java.util.List;
import java.util.Random;

/** Long runs of calls, drawn from a fixed seed, answered as the naive judge answers them. */
public final class RandomRunsTest {
    private static final int RUNS = 1500;

    /** A name that stands here more often is called more often. */
    private static final String[] CALLS = {
        "price", "price", "ask", "ask", "ask", "ask", "draw", "change", "cut", "asked", "many",
        "serve", "serve", "serve", "serve", "paid", "hit", "gone", "look", "look", "look", "look",
        "level", "level", "fewest", "share", "least", "goes", "goes", "phases", "phase", "distance",
        "curve", "hard", "claim", "copy", "unclaim", "cost", "check", "check"};

    public static void main(String[] args) {
        for (int run = 0; run < RUNS; run++) {
            compareRun(run);
        }
        for (int seed = 0; seed < 60; seed++) {
            compareWholeRuns(seed);
            lawsOfWays(seed);
        }
        for (int seed = 0; seed < 300; seed++) {
            compareAllChoices(seed);
        }
        Due.end();
    }

    /** At most 512 calls on one object, most of them with arguments that may be. */
    private static void compareRun(int run) {
        Random random = new Random(run);
        ShelfJudge x = new ShelfJudge();
        NaiveJudge y = new NaiveJudge();
        int things = 1 + random.nextInt(16);
        int calls = 20 + random.nextInt(180);
        StringBuilder told = new StringBuilder();
        for (int j = 0; j < calls; j++) {
            String name = CALLS[random.nextInt(CALLS.length)];
            if (isKeptRare(name) && random.nextInt(4) != 0 || isTooSlow(name, y)) {
                name = "many";
            }
            Object[] a = new Object[Calls.parameters(name)];
            for (int n = 0; n < a.length; n++) {
                a[n] = argument(random, things);
            }
            if (name.equals("price") && random.nextBoolean()) {
                a[1] = 1 + random.nextInt(1000);
            }
            if (name.equals("draw")) {
                a[2] = random.nextInt();
            }
            int want = Calls.answer(y, name, a);
            int got = Calls.answer(x, name, a);
            told.append(name).append(Arrays.toString(a)).append(' ');
            Due.is("run " + run + ", call " + j + ": " + told, got, want);
            if (got != want) {
                return;
            }
        }
    }

    /** Calls that would leave little to look at, were they as frequent as the others. */
    private static boolean isKeptRare(String name) {
        return name.equals("cut") || name.equals("hard") || name.equals("unclaim");
    }

    private static boolean isTooSlow(String name, NaiveJudge y) {
        return (name.equals("least") || name.equals("goes")) && y.many(0) > 40;
    }

    private static int argument(Random random, int things) {
        int kind = random.nextInt(40);
        if (kind == 0) {
            return random.nextInt();
        }
        if (kind == 1) {
            return -1;
        }
        if (kind == 2) {
            return 295 + random.nextInt(10);
        }
        if (kind < 12) {
            return random.nextInt(20) - 1;
        }
        if (kind < 20) {
            return random.nextInt(40);
        }
        return kind < 30 ? random.nextInt(9) : random.nextInt(things);
    }

    /** Of one row by each way all that can be looked at, behind each asking, in a mixed order. */
    private static void compareWholeRuns(int seed) {
        Random random = new Random(seed);
        int things = 2 + random.nextInt(15);
        int n = seed % 10 == 0 ? 300 : 10 + random.nextInt(60);
        int[] prices = new int[16];
        NaiveJudge y = new NaiveJudge();
        for (int thing = 0; thing < 16; thing++) {
            prices[thing] = seed % 3 == 0 ? 1 : 1 + random.nextInt(seed % 3 == 1 ? 4 : 1000);
            y.price(thing, prices[thing]);
        }
        y.draw(n, things, seed);
        for (int way = 0; way <= 8; way++) {
            int k = 1 + random.nextInt(8);
            String name = "seed " + seed + ", way " + way + ", k " + k;
            ShelfJudge x = drawn(n, things, seed, prices);
            Due.is(name + ": serve", x.serve(way, k), y.serve(way, k));
            Due.is(name + ": paid", x.paid(), y.paid());
            Due.is(name + ": share", x.share(), y.share());
            for (int i = 0; i < n; i++) {
                Due.is(name + ": hit(" + i + ")", x.hit(i), y.hit(i));
            }
            x = drawn(n, things, seed, prices);
            x.serve(way, k);
            for (int i = 0; i < n; i++) {
                Due.is(name + ": gone(" + i + ")", x.gone(i), y.gone(i));
            }
            // Four moments to an object, as it has but 512 calls.
            for (int j = 0; j < 10; j++) {
                x = drawn(n, things, seed, prices);
                x.serve(way, k);
                for (int moment = 0; moment < 4; moment++) {
                    compareMoment(name, x, y, random.nextInt(n));
                }
            }
        }
    }

    private static ShelfJudge drawn(int n, int things, int seed, int[] prices) {
        ShelfJudge x = new ShelfJudge();
        for (int thing = 0; thing < 16; thing++) {
            x.price(thing, prices[thing]);
        }
        x.draw(n, things, seed);
        return x;
    }

    private static void compareMoment(String name, ShelfJudge x, NaiveJudge y, int i) {
        for (int thing = 0; thing < 16; thing++) {
            for (int what = 0; what <= 5; what++) {
                Due.is(name + ": look(" + i + ", " + thing + ", " + what + ")",
                    x.look(i, thing, what), y.look(i, thing, what));
            }
        }
        for (int how = 0; how <= 4; how++) {
            Due.is(name + ": level(" + i + ", " + how + ")", x.level(i, how), y.level(i, how));
        }
    }

    /** What must hold of any row: RESTING misses as the curve says, and nothing pays less than least. */
    private static void lawsOfWays(int seed) {
        Random random = new Random(seed);
        int n = seed % 6 == 0 ? 300 : 1 + random.nextInt(100);
        int things = 1 + random.nextInt(10);
        int[] prices = new int[16];
        Arrays.fill(prices, 1);
        for (int k = 1; k <= 8; k++) {
            ShelfJudge x = drawn(n, things, seed, prices);
            Due.is("RESTING is the curve", x.serve(1, k), x.curve(k));
            Due.is("AHEAD pays the least at one price", x.serve(8, k), x.least(k));
        }
        Arrays.setAll(prices, thing -> 1 + random.nextInt(1000));
        int withOneFewer = Integer.MAX_VALUE;
        for (int k = 1; k <= 8; k++) {
            ShelfJudge x = drawn(n, things, seed, prices);
            int least = x.least(k);
            for (int way = 0; way <= 8; way++) {
                x.serve(way, k);
                Due.that("no way pays less", x.paid() >= least);
            }
            if (n <= 200) {
                for (int i = 0; i < n; i++) {
                    x.claim(x.goes(k, i));
                }
                Due.is("what goes costs the least", x.cost(k), least);
            }
            Due.that("a place more costs no more", least <= withOneFewer);
            withOneFewer = least;
        }
    }

    /** The least and its first choice, found by walking through every choice there is. */
    private static void compareAllChoices(int seed) {
        Random random = new Random(seed);
        ShelfJudge x = new ShelfJudge();
        int n = 1 + random.nextInt(9);
        int k = 1 + random.nextInt(3);
        int[] row = new int[n];
        int[] prices = new int[16];
        int things = 2 + random.nextInt(4);
        int offset = random.nextInt(11);
        for (int thing = 0; thing < 16; thing++) {
            prices[thing] = 1 + random.nextInt(3);
            x.price(thing, prices[thing]);
        }
        for (int i = 0; i < n; i++) {
            row[i] = offset + random.nextInt(things);
            x.ask(row[i], -1, -1, -1, -1);
        }
        best = Integer.MAX_VALUE;
        walk(row, prices, k, 0, new ArrayList<>(), new ArrayList<>());
        Due.is("all choices, seed " + seed, x.least(k), best);
        for (int i = 0; i < n; i++) {
            Due.is("all choices, seed " + seed + ", goes " + i, x.goes(k, i), bestGoings.get(i));
        }
    }

    private static int best;
    private static List<Integer> bestGoings;

    /** Goes through the choices in the order of the lesser thing, so that the first best one counts. */
    private static void walk(int[] row, int[] prices, int k, int paid, List<Integer> shelf,
            List<Integer> goings) {
        int i = goings.size();
        if (i == row.length) {
            if (paid < best) {
                best = paid;
                bestGoings = new ArrayList<>(goings);
            }
            return;
        }
        boolean hit = shelf.contains(row[i]);
        boolean full = shelf.size() == k;
        for (int goes = -1; goes < 16; goes++) {
            boolean may = hit || !full ? goes == -1 : shelf.contains(goes);
            if (may) {
                List<Integer> then = new ArrayList<>(shelf);
                then.remove(Integer.valueOf(goes));
                if (!hit) {
                    then.add(row[i]);
                }
                goings.add(goes);
                walk(row, prices, k, hit ? paid : paid + prices[row[i]], then, goings);
                goings.remove(i);
            }
        }
    }
}
