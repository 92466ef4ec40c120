/** Promises 9 to 16: runs by each way, and what is told of them. */
public final class RunsTest {
    private static final int NUMBER = -2147483648;
    private static final int KIND = -2147483647;

    public static void main(String[] args) {
        serve();
        oldestAndResting();
        marking();
        clock();
        rarest();
        twofold();
        balance();
        balanceShareStaysInBounds();
        greedy();
        ahead();
        paidHitGone();
        refusedLooks();
        refusedLevels();
        fewest();
        share();
        Due.end();
    }

    private static void serve() {
        ShelfJudge x = Rows.of(0, 1, 0);
        Due.is("9: way -1", x.serve(-1, 1), ShelfJudge.NUMBER);
        Due.is("9: way 9", x.serve(9, 1), ShelfJudge.NUMBER);
        Due.is("9: k 0", x.serve(0, 0), ShelfJudge.NUMBER);
        Due.is("9: k 9", x.serve(0, 9), ShelfJudge.NUMBER);
        Due.is("9: k min", x.serve(0, Integer.MIN_VALUE), ShelfJudge.NUMBER);
        Due.is("9: a refused one is no run", x.paid(), ShelfJudge.STATE);
        for (int way = 0; way <= 8; way++) {
            Due.is("9: one place, way " + way, x.serve(way, 1), 3);
            Due.is("9: two places, way " + way, x.serve(way, 2), 2);
            Due.is("9: eight places, way " + way, x.serve(way, 8), 2);
        }
        x.serve(0, 1);
        Due.is("9: refused", x.serve(1, 9), ShelfJudge.NUMBER);
        Due.is("9: the earlier run stays", x.paid(), 3);
        for (int way = 0; way <= 8; way++) {
            Due.is("9: no askings, way " + way, new ShelfJudge().serve(way, 3), 0);
        }
    }

    private static void oldestAndResting() {
        ShelfJudge x = Rows.of(0, 1, 0, 2, 0);
        Due.is("9: OLDEST", x.serve(0, 2), 4);
        Rows.goings("12: OLDEST", x, -1, -1, -1, 0, 1);
        Due.is("9: RESTING", x.serve(1, 2), 3);
        Rows.goings("12: RESTING", x, -1, -1, -1, 1, -1);
        Due.is("13: COUNT of 0", x.look(4, 0, 1), 3);
        Due.is("13: COUNT of 0 earlier", x.look(1, 0, 1), 1);
        Due.is("13: COUNT of what went", x.look(3, 1, 1), 0);
        Due.is("13: 1 lay there", x.look(2, 1, 0), 1);
        Due.is("13: 1 lies there no more", x.look(3, 1, 0), 0);
    }

    private static void marking() {
        ShelfJudge x = Rows.of(0, 1, 0, 2, 3, 2, 4);
        Due.is("9: MARKING", x.serve(2, 2), 5);
        Rows.goings("12: MARKING", x, -1, -1, -1, 1, 0, -1, 3);
        Due.is("13: what comes is MARKED", x.look(0, 0, 2), 1);
        Due.is("13: 2 is MARKED", x.look(3, 2, 2), 1);
        Due.is("13: 0 is no more", x.look(3, 0, 2), 0);
        Due.is("13: what went is not", x.look(3, 1, 2), 0);
        int[] rounds = {0, 0, 0, 1, 1, 1, 2};
        for (int i = 0; i < rounds.length; i++) {
            Due.is("14: ROUNDS behind " + i, x.level(i, 1), rounds[i]);
        }
    }

    private static void clock() {
        ShelfJudge x = Rows.of(0, 1, 0, 2, 3);
        Due.is("9: CLOCK", x.serve(3, 2), 4);
        Rows.goings("12: CLOCK", x, -1, -1, -1, 1, 0);
        Due.is("13: no MARK by coming", x.look(1, 0, 2), 0);
        Due.is("13: a MARK by a HIT", x.look(2, 0, 2), 1);
        Due.is("13: THE HAND took it", x.look(3, 0, 2), 0);
        Due.is("13: PLACE of 1", x.look(1, 1, 3), 1);
        Due.is("13: PLACE of 2", x.look(3, 2, 3), 1);
        Due.is("13: PLACE of 3", x.look(4, 3, 3), 0);
        Due.is("13: no PLACE", x.look(3, 1, 3), -1);
        int[] hand = {0, 0, 0, 0, 1};
        for (int i = 0; i < hand.length; i++) {
            Due.is("14: THE HAND behind " + i, x.level(i, 2), hand[i]);
        }
        ShelfJudge y = Rows.of(0, 1, 0, 1, 2);
        y.serve(3, 2);
        Rows.goings("12: CLOCK, all MARKED", y, -1, -1, -1, -1, 0);
        Due.is("13: all marks are taken", y.look(4, 1, 2), 0);
        Due.is("14: THE HAND went round", y.level(4, 2), 1);
    }

    private static void rarest() {
        ShelfJudge x = Rows.of(0, 0, 1, 2, 1);
        Due.is("9: RAREST", x.serve(4, 2), 4);
        Rows.goings("12: RAREST", x, -1, -1, -1, 1, 2);
        Due.is("13: COUNT begins anew", x.look(4, 1, 1), 1);
        Due.is("13: COUNT of 0", x.look(4, 0, 1), 2);
        ShelfJudge y = Rows.of(1, 0, 1, 0, 2);
        y.serve(4, 2);
        Rows.goings("12: RAREST, of several", y, -1, -1, -1, -1, 1);
        ShelfJudge z = Rows.of(0, 1, 1, 0, 2);
        z.serve(4, 2);
        Rows.goings("12: RAREST, of several", z, -1, -1, -1, -1, 1);
    }

    private static void twofold() {
        ShelfJudge x = Rows.of(0, 1, 2, 1, 0);
        Due.is("9: TWOFOLD", x.serve(5, 1), 5);
        Rows.goings("12: TWOFOLD", x, -1, 0, 1, 2, 1);
        int[][] parts = {{1, 0, 0}, {3, 1, 0}, {0, 3, 1}, {0, 2, 3}, {1, 0, 3}};
        for (int i = 0; i < parts.length; i++) {
            for (int thing = 0; thing < 3; thing++) {
                Due.is("13: part of " + thing + " behind " + i, x.look(i, thing, 4), parts[i][thing]);
            }
        }
        // With 4 places ONCE keeps one while TWICE has any.
        ShelfJudge y = Rows.of(0, 1, 2, 3, 0, 1, 2, 4, 5, 3);
        y.serve(5, 4);
        Rows.goings("12: TWOFOLD, k 4", y, -1, -1, -1, -1, -1, -1, -1, 0, 3, 4);
        Due.is("13: 3 is in TWICE", y.look(9, 3, 4), 2);
        Due.is("13: 0 is nowhere", y.look(9, 0, 4), 0);
        Due.is("13: 4 is in THE BOOK", y.look(9, 4, 4), 3);
    }

    private static void balance() {
        ShelfJudge x = Rows.of(0, 1, 2, 1, 0, 1);
        Due.is("9: BALANCE", x.serve(6, 1), 6);
        Rows.goings("12: BALANCE", x, -1, 0, 1, 2, 1, 0);
        int[][] parts = {{1, 0, 0}, {3, 1, 0}, {0, 3, 1}, {0, 2, 3}, {1, 4, 3}, {3, 2, 0}};
        int[] share = {0, 0, 0, 1, 1, 0};
        for (int i = 0; i < parts.length; i++) {
            for (int thing = 0; thing < 3; thing++) {
                Due.is("13: part of " + thing + " behind " + i, x.look(i, thing, 4), parts[i][thing]);
            }
            Due.is("14: THE SHARE behind " + i, x.level(i, 3), share[i]);
        }
    }

    /** Rows that meet the first BOOK when THE SHARE is k already, and the second one too. */
    private static void balanceShareStaysInBounds() {
        int[][] rows = {{1, 3, 0}, {2, 5, 1}, {3, 7, 5}, {4, 10, 14}};
        for (int[] row : rows) {
            int k = row[0];
            ShelfJudge x = new ShelfJudge();
            x.draw(60, row[1], row[2]);
            x.serve(6, k);
            boolean held = false;
            boolean down = false;
            for (int i = 1; i < 60; i++) {
                int earlier = x.level(i - 1, 3);
                int share = x.level(i, 3);
                int from = x.look(i - 1, x.asked(i), 4);
                int want = from == 3 ? Math.min(k, earlier + 1)
                    : from == 4 ? Math.max(0, earlier - 1) : earlier;
                Due.is("14: THE SHARE behind " + i + ", k " + k, share, want);
                held = held || from == 3 && earlier == k;
                down = down || share < earlier;
            }
            Due.that("14: the row meets THE SHARE's bound, k " + k, held && down);
        }
    }

    private static void greedy() {
        ShelfJudge x = Rows.of(0, 1, 2, 1, 2, 1, 2);
        x.price(0, 5);
        Due.is("9: GREEDY", x.serve(7, 2), 7);
        Rows.goings("12: GREEDY", x, -1, -1, 1, 2, 1, 2, 0);
        int[] level = {0, 0, 1, 2, 3, 4, 5};
        for (int i = 0; i < level.length; i++) {
            Due.is("14: THE LEVEL behind " + i, x.level(i, 4), level[i]);
        }
        Due.is("13: CREDIT of 0", x.look(5, 0, 5), 5);
        Due.is("13: CREDIT of 1", x.look(5, 1, 5), 5);
        Due.is("13: CREDIT of 2", x.look(6, 2, 5), 6);
        Due.is("13: CREDIT of what went", x.look(6, 0, 5), 0);
        Due.is("10: paid", x.paid(), 11);
        ShelfJudge y = Rows.of(0, 1, 2, 2);
        y.serve(7, 2);
        Due.is("13: CREDIT by a HIT", y.look(3, 2, 5), 2);
        Due.is("12: of several the one that rests longest", y.gone(2), 0);
    }

    private static void ahead() {
        ShelfJudge x = Rows.of(0, 1, 2, 0, 1);
        Due.is("9: AHEAD", x.serve(8, 2), 4);
        Rows.goings("12: AHEAD", x, -1, -1, 1, -1, 0);
        ShelfJudge y = Rows.of(3, 2, 5, 3);
        y.serve(8, 2);
        Rows.goings("12: AHEAD, not asked for any more", y, -1, -1, 2, -1);
        ShelfJudge z = Rows.of(7, 5, 6, 1, 6);
        z.serve(8, 3);
        Rows.goings("12: AHEAD, the least THING", z, -1, -1, -1, 5, -1);
    }

    private static void paidHitGone() {
        ShelfJudge x = Rows.of(3, 3, 4, 3);
        Due.is("10: no run", x.paid(), ShelfJudge.STATE);
        Due.is("11: no run", x.hit(0), ShelfJudge.STATE);
        Due.is("11: no run, no such ASKING", x.hit(9), ShelfJudge.STATE);
        Due.is("12: no run", x.gone(0), -1);
        x.price(3, 20);
        x.price(4, 3);
        x.serve(0, 1);
        Due.is("10: paid", x.paid(), 43);
        int[] hits = {0, 1, 0, 0, -1};
        for (int i = 0; i < hits.length; i++) {
            Due.is("11: hit(" + i + ")", x.hit(i), hits[i]);
        }
        Due.is("11: hit(-1)", x.hit(-1), -1);
        Due.is("11: hit(min)", x.hit(Integer.MIN_VALUE), -1);
        Rows.goings("12", x, -1, -1, 3, 4, -1);
        Due.is("12: gone(-1)", x.gone(-1), -1);
        Due.is("12: gone(max)", x.gone(Integer.MAX_VALUE), -1);
        x.serve(0, 2);
        Due.is("10: the latest run", x.paid(), 23);
    }

    private static void refusedLooks() {
        ShelfJudge x = Rows.of(0, 1);
        Due.is("13: no run", x.look(9, 99, 99), ShelfJudge.STATE);
        int[][] whats = {{0, 1}, {0, 1}, {0, 1, 2}, {0, 1, 2, 3}, {0, 1}, {0, 1, 4}, {0, 1, 4},
            {0, 1, 5}, {0, 1}};
        for (int way = 0; way <= 8; way++) {
            x.serve(way, 2);
            for (int what = 0; what <= 5; what++) {
                boolean known = false;
                for (int w : whats[way]) {
                    known = known || w == what;
                }
                Due.is("13: KIND, way " + way + ", what " + what,
                    x.look(0, 0, what) == KIND ? 1 : 0, known ? 0 : 1);
                Due.is("13: no ASKING 2", x.look(2, 0, what), NUMBER);
                Due.is("13: no ASKING -1", x.look(-1, 0, what), NUMBER);
                Due.is("13: no THING 16", x.look(0, 16, what), NUMBER);
                Due.is("13: no THING -1", x.look(0, -1, what), NUMBER);
            }
            Due.is("13: what 6", x.look(0, 0, 6), NUMBER);
            Due.is("13: what -1", x.look(0, 0, -1), NUMBER);
        }
    }

    private static void refusedLevels() {
        ShelfJudge x = Rows.of(0, 1);
        Due.is("14: no run", x.level(9, 99), ShelfJudge.STATE);
        int[] hows = {0, 0, 1, 2, 0, 0, 3, 4, 0};
        for (int way = 0; way <= 8; way++) {
            x.serve(way, 2);
            Due.is("14: one lies there", x.level(0, 0), 1);
            Due.is("14: two lie there", x.level(1, 0), 2);
            for (int how = 1; how <= 4; how++) {
                Due.is("14: KIND, way " + way + ", how " + how,
                    x.level(0, how) == KIND ? 1 : 0, hows[way] == how ? 0 : 1);
                Due.is("14: no ASKING 2", x.level(2, how), NUMBER);
                Due.is("14: no ASKING -1", x.level(-1, how), NUMBER);
            }
            Due.is("14: how 5", x.level(0, 5), NUMBER);
            Due.is("14: how -1", x.level(0, -1), NUMBER);
        }
    }

    private static void fewest() {
        ShelfJudge x = Rows.of(0, 1, 0, 2, 0);
        Due.is("15: k 0", x.fewest(0), ShelfJudge.NUMBER);
        Due.is("15: k 9", x.fewest(9), ShelfJudge.NUMBER);
        Due.is("15: of several the least", x.fewest(1), 0);
        Due.is("15: RESTING", x.fewest(2), 1);
        Due.is("15: no ASKINGS", new ShelfJudge().fewest(8), 0);
        Due.is("15: it makes no run", x.paid(), ShelfJudge.STATE);
        x.serve(5, 1);
        x.fewest(2);
        Due.is("15: the run stays", x.paid(), 5);
        Due.is("15: the run stays", x.look(1, 0, 4), 3);
        // GREEDY alone keeps the dear one; AHEAD, which would do better, isn't asked.
        ShelfJudge y = Rows.of(0, 1, 2, 3, 0, 1, 2, 3, 0, 1, 2, 3, 0);
        y.price(0, 100);
        Due.is("15: GREEDY", y.fewest(2), 7);
    }

    private static void share() {
        ShelfJudge x = new ShelfJudge();
        Due.is("16: no run", x.share(), ShelfJudge.STATE);
        x.serve(0, 1);
        Due.is("16: no ASKINGS", x.share(), ShelfJudge.NUMBER);
        x.draw(300, 1, 1);
        for (int i = 0; i < 300; i++) {
            x.change(i, i % 2);
        }
        x.serve(0, 1);
        Due.is("16: no HITS", x.share(), 0);
        for (int n = 1; n <= 300; n++) {
            ShelfJudge y = new ShelfJudge();
            y.draw(n, 2, n);
            int hits = n - y.serve(1, 1);
            Due.is("16: " + hits + " of " + n, y.share(), (int) (((float) hits / n) * 10000));
        }
        ShelfJudge z = Rows.of(0, 0, 0);
        z.serve(0, 1);
        Due.is("16: 2 of 3", z.share(), 6666);
        ShelfJudge w = new ShelfJudge();
        w.draw(300, 1, 1);
        w.serve(0, 1);
        Due.is("16: 299 of 300", w.share(), 9966);
    }
}
