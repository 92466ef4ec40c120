import java.util.Arrays;

/** Makes objects with a row, by few calls, as an object has but 512. */
final class Rows {
    private Rows() {
    }

    static ShelfJudge of(int... things) {
        ShelfJudge x = new ShelfJudge();
        add(x, things);
        return x;
    }

    static void add(ShelfJudge x, int... things) {
        int[] five = new int[5];
        for (int i = 0; i < things.length; i += 5) {
            for (int j = 0; j < 5; j++) {
                five[j] = i + j < things.length ? things[i + j] : -1;
            }
            x.ask(five[0], five[1], five[2], five[3], five[4]);
        }
    }

    /** 0, 1, 2 and on to things - 1, and from 0 again, n in all. */
    static int[] around(int n, int things) {
        int[] row = new int[n];
        for (int i = 0; i < n; i++) {
            row[i] = i % things;
        }
        return row;
    }

    static int[] join(int[] first, int... second) {
        int[] all = Arrays.copyOf(first, first.length + second.length);
        System.arraycopy(second, 0, all, first.length, second.length);
        return all;
    }

    static ShelfJudge full(int things) {
        return of(around(300, things));
    }

    static ShelfJudge served(int way, int k, int... row) {
        ShelfJudge x = of(row);
        x.serve(way, k);
        return x;
    }

    static void goings(String what, ShelfJudge x, int... want) {
        for (int i = 0; i < want.length; i++) {
            Due.is(what + ": gone(" + i + ")", x.gone(i), want[i]);
        }
    }
}
