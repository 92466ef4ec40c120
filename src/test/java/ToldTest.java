/** Promises 24 to 28: told goings. */
public final class ToldTest {
    public static void main(String[] args) {
        claim();
        copy();
        unclaim();
        cost();
        check();
        Due.end();
    }

    private static void tell(ShelfJudge x, int... goings) {
        x.unclaim();
        for (int thing : goings) {
            x.claim(thing);
        }
    }

    private static void claim() {
        ShelfJudge x = new ShelfJudge();
        Due.is("24: claim(-2)", x.claim(-2), ShelfJudge.NUMBER);
        Due.is("24: claim(16)", x.claim(16), ShelfJudge.NUMBER);
        for (int n = 1; n <= 300; n++) {
            Due.is("24: claim " + n, x.claim(n % 17 - 1), n);
        }
        Due.is("24: there are 300", x.claim(0), ShelfJudge.FULL);
        Due.is("24: wrong before full", x.claim(16), ShelfJudge.NUMBER);
        Due.is("24: many", x.many(2), 300);
    }

    private static void copy() {
        ShelfJudge x = Rows.of(0, 1, 2, 1);
        x.claim(5);
        Due.is("25: no run", x.copy(), ShelfJudge.STATE);
        Due.is("25: what was told stays", x.many(2), 1);
        x.serve(0, 1);
        Due.is("25: copy", x.copy(), 4);
        Due.is("25: many", x.many(2), 4);
        Due.is("25: they are the run's", x.check(0, 1), -1);
        x.cut(0);
        x.serve(0, 1);
        Due.is("25: of no ASKINGS", x.copy(), 0);
        Due.is("25: nothing is told", x.many(2), 0);
        x.draw(300, 9, 4);
        x.serve(6, 5);
        Due.is("25: of 300", x.copy(), 300);
        x.look(10, 0, 0);
        Due.is("25: looking changes nothing", x.check(6, 5), -1);
    }

    private static void unclaim() {
        ShelfJudge x = new ShelfJudge();
        Due.is("26: nothing", x.unclaim(), 0);
        x.claim(1);
        x.claim(-1);
        Due.is("26: two", x.unclaim(), 2);
        Due.is("26: nothing more", x.unclaim(), 0);
        Due.is("26: many", x.many(2), 0);
        Due.is("26: from the beginning", x.claim(3), 1);
    }

    private static void cost() {
        ShelfJudge x = Rows.of(0, 1, 2, 0, 1);
        x.price(2, 30);
        Due.is("27: k 0", x.cost(0), -1);
        Due.is("27: k 9", x.cost(9), -1);
        tell(x, -1, -1, 1, -1, 0);
        Due.is("27: as AHEAD", x.cost(2), 33);
        tell(x, -1, -1, 0, 1, 2);
        Due.is("27: worse", x.cost(2), 34);
        tell(x, -1, -1, 0, 1);
        Due.is("27: one fewer", x.cost(2), -6);
        tell(x, -1, -1, 0, 1, 2, -1);
        Due.is("27: one more", x.cost(2), -7);
        tell(x, -1, -1, 0, 1, 2, -1, 5, 5);
        Due.is("27: three more", x.cost(2), -7);
        tell(x, 0, -1, 0, 1, 2);
        Due.is("27: a PLACE is free", x.cost(2), -2);
        tell(x, -1, 0, 1, 2, 0);
        Due.is("27: a PLACE is free for the second", x.cost(2), -3);
        Due.is("27: with one PLACE it is not", x.cost(1), 34);
        tell(x, -1, -1, -1, 1, 2);
        Due.is("27: nothing goes", x.cost(2), -4);
        tell(x, -1, -1, 2, 1, 2);
        Due.is("27: that which comes doesn't lie there", x.cost(2), -4);
        tell(x, -1, -1, 15, 1, 2);
        Due.is("27: 15 doesn't lie there", x.cost(2), -4);
        tell(x, -1, -1, 1, 0, 0);
        Due.is("27: something goes for a HIT", x.cost(2), -5);
        tell(x, -1, -1, 0, 0, 0);
        Due.is("27: 0 is gone already", x.cost(2), -5);
        tell(x, -1, -1, -1, -1, -1);
        Due.is("27: room for all", x.cost(3), 32);
        tell(x);
        Due.is("27: nothing is told", x.cost(3), -2);
        x.cut(0);
        Due.is("27: nothing of nothing", x.cost(3), 0);
        x.claim(-1);
        Due.is("27: more than nothing", x.cost(3), -2);
    }

    private static void check() {
        ShelfJudge x = Rows.of(0, 1, 0, 2, 0);
        Due.is("28: way -1", x.check(-1, 2), -2);
        Due.is("28: way 9", x.check(9, 2), -2);
        Due.is("28: k 0", x.check(0, 0), -2);
        Due.is("28: k 9", x.check(0, 9), -2);
        tell(x, -1, -1, -1, 0, 1);
        Due.is("28: OLDEST", x.check(0, 2), -1);
        Due.is("28: not RESTING", x.check(1, 2), 3);
        Due.is("28: not with one PLACE", x.check(0, 1), 1);
        tell(x, -1, -1, -1, 1, -1);
        Due.is("28: RESTING", x.check(1, 2), -1);
        Due.is("28: AHEAD", x.check(8, 2), -1);
        tell(x, -1, -1, -1, 1);
        Due.is("28: one fewer", x.check(1, 2), 4);
        tell(x, -1, -1, -1, 1, -1, -1);
        Due.is("28: one more", x.check(1, 2), 5);
        tell(x, -1, -1, 3, 1, -1, -1);
        Due.is("28: the first one", x.check(1, 2), 2);
        tell(x);
        Due.is("28: nothing is told", x.check(1, 2), 0);
        Due.is("28: nothing of nothing", new ShelfJudge().check(8, 8), -1);
        ShelfJudge y = new ShelfJudge();
        y.draw(300, 12, 8);
        for (int way = 0; way <= 8; way++) {
            for (int k = 1; k <= 8; k++) {
                y.serve(way, k);
                y.copy();
                Due.is("28: way " + way + ", k " + k, y.check(way, k), -1);
                Due.is("27: cost of way " + way, y.cost(k), y.paid());
            }
        }
    }
}
