import java.util.Arrays;

/** Every row of a few askings for a few things: no drawing leaves one of these out. */
public final class SmallRowsTest {
    private static final int THINGS = 4;
    private static final int MOST_ASKINGS = 6;
    private static final int MOST_PLACES = 3;
    private static final int[][] PRICES = {{1, 1, 1, 1}, {3, 1, 2, 1}};

    private final ShelfJudge x = new ShelfJudge();
    private final NaiveJudge y = new NaiveJudge();
    private final int[] row;
    private final int[] prices;
    private final int k;
    private int way;

    public static void main(String[] args) {
        int rows = 1;
        for (int n = 0; n <= MOST_ASKINGS; n++) {
            for (int number = 0; number < rows; number++) {
                everyShelf(rowOf(n, number));
            }
            rows *= THINGS;
        }
        Due.end();
    }

    /** The digits of a number, which has one for each asking. */
    private static int[] rowOf(int n, int number) {
        int[] row = new int[n];
        int left = number;
        for (int i = 0; i < n; i++) {
            row[i] = left % THINGS;
            left /= THINGS;
        }
        return row;
    }

    /** Some 450 calls of an object at most, as it has but 512. */
    private static void everyShelf(int[] row) {
        for (int[] prices : PRICES) {
            for (int k = 1; k <= MOST_PLACES; k++) {
                SmallRowsTest one = new SmallRowsTest(row, prices, k);
                one.compareRow();
                for (one.way = 0; one.way <= 8; one.way++) {
                    one.compareRun();
                }
            }
        }
    }

    private SmallRowsTest(int[] row, int[] prices, int k) {
        this.row = row;
        this.prices = prices;
        this.k = k;
        for (int thing = 0; thing < THINGS; thing++) {
            x.price(thing, prices[thing]);
            y.price(thing, prices[thing]);
        }
        Rows.add(x, row);
        for (int thing : row) {
            y.ask(thing, -1, -1, -1, -1);
        }
    }

    /** Writes what was called only for a wrong answer, as there are some millions of them. */
    private void is(String call, int a, int b, int got, int want) {
        Due.is(got == want ? call : "row " + Arrays.toString(row) + ", prices " + Arrays.toString(prices)
            + ", k " + k + ", way " + way + ": " + call + " " + a + " " + b, got, want);
    }

    private void compareRow() {
        is("least", 0, 0, x.least(k), y.least(k));
        is("fewest", 0, 0, x.fewest(k), y.fewest(k));
        is("phases", 0, 0, x.phases(k), y.phases(k));
        is("curve", 0, 0, x.curve(k), y.curve(k));
        for (int i = 0; i < row.length; i++) {
            is("goes", i, 0, x.goes(k, i), y.goes(k, i));
            is("phase", i, 0, x.phase(k, i), y.phase(k, i));
            is("distance", i, 0, x.distance(i), y.distance(i));
        }
    }

    private void compareRun() {
        is("serve", 0, 0, x.serve(way, k), y.serve(way, k));
        is("paid", 0, 0, x.paid(), y.paid());
        is("share", 0, 0, x.share(), y.share());
        for (int i = 0; i < row.length; i++) {
            is("hit", i, 0, x.hit(i), y.hit(i));
            is("gone", i, 0, x.gone(i), y.gone(i));
        }
        compareEnd();
        is("copy", 0, 0, x.copy(), row.length);
        is("check", 0, 0, x.check(way, k), -1);
        is("cost", 0, 0, x.cost(k), x.paid());
    }

    /** It is enough to look at the end, as each beginning of a row is a row, too (but for AHEAD). */
    private void compareEnd() {
        int last = row.length - 1;
        for (int thing = 0; thing < THINGS; thing++) {
            for (int what = 0; what <= 5; what++) {
                is("look", thing, what, x.look(last, thing, what), y.look(last, thing, what));
            }
        }
        for (int how = 0; how <= 4; how++) {
            is("level", how, 0, x.level(last, how), y.level(last, how));
        }
    }
}
