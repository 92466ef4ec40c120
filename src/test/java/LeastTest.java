/** Promises 17 to 23: the least, phases, distances, rows made to be hard. */
public final class LeastTest {
    public static void main(String[] args) {
        least();
        goes();
        tableFollowsTheRow();
        phases();
        distances();
        curve();
        hard();
        Due.end();
    }

    private static void least() {
        ShelfJudge x = Rows.of(0, 1, 2, 1, 0);
        Due.is("17: k 0", x.least(0), ShelfJudge.NUMBER);
        Due.is("17: k 9", x.least(9), ShelfJudge.NUMBER);
        Due.is("17: k -1", x.least(-1), ShelfJudge.NUMBER);
        Due.is("17: at one price", x.least(2), 4);
        x.price(0, 10);
        Due.is("17: the dear one stays", x.least(2), 13);
        x.serve(8, 2);
        Due.is("17: AHEAD pays more", x.paid(), 22);
        Due.is("17: one place", x.least(1), 23);
        Due.is("17: room for all", x.least(3), 12);
        Due.is("17: room for more", x.least(8), 12);
        Due.is("17: no ASKINGS", new ShelfJudge().least(1), 0);
        ShelfJudge y = Rows.of(0, 2, 4, 6, 8, 10, 12, 14, 15, 13);
        Due.is("17: ten unlike ones", y.least(3), 10);
        y.ask(11, -1, -1, -1, -1);
        Due.is("17: eleven", y.least(3), ShelfJudge.LARGE);
        Due.is("17: eleven, one place more than may be", y.least(9), ShelfJudge.NUMBER);
        Due.is("17: goes of eleven", y.goes(3, 5), -1);
        y.cut(10);
        Due.is("17: ten again", y.least(8), 10);
    }

    private static void goes() {
        ShelfJudge x = Rows.of(0, 1, 2, 1, 0);
        x.price(0, 10);
        int[] want = {-1, -1, 1, 2, -1, -1};
        for (int i = 0; i < want.length; i++) {
            Due.is("18: goes(2, " + i + ")", x.goes(2, i), want[i]);
        }
        Due.is("18: goes(2, -1)", x.goes(2, -1), -1);
        Due.is("18: goes(0, 2)", x.goes(0, 2), -1);
        Due.is("18: goes(9, 2)", x.goes(9, 2), -1);
        Due.is("18: room for all", x.goes(3, 2), -1);
        int[] one = {-1, 0, 1, 2, 1};
        for (int i = 0; i < one.length; i++) {
            Due.is("18: goes(1, " + i + ")", x.goes(1, i), one[i]);
        }
        ShelfJudge y = Rows.of(14, 9, 3, 9, 15);
        int[] lesser = {-1, -1, 14, -1, 3};
        for (int i = 0; i < lesser.length; i++) {
            Due.is("18: the lesser THING, goes(2, " + i + ")", y.goes(2, i), lesser[i]);
        }
    }

    /** What was found for a row, a price or a k is not told of another. */
    private static void tableFollowsTheRow() {
        ShelfJudge x = Rows.of(0, 1, 2, 0, 1, 2);
        Due.is("17: at first", x.least(2), 4);
        Due.is("17: by one place", x.least(1), 6);
        x.price(1, 50);
        Due.is("17: behind price", x.least(2), 54);
        Due.is("18: behind price", x.goes(2, 2), 0);
        x.change(2, 0);
        Due.is("17: behind change", x.least(2), 52);
        x.cut(1);
        Due.is("17: behind cut", x.least(2), 1);
        x.ask(1, -1, -1, -1, -1);
        Due.is("17: behind ask", x.least(2), 51);
        x.draw(1, 1, 1);
        Due.is("17: behind draw", x.least(1), 52);
        x.hard(0, 1, 4);
        Due.is("17: behind hard", x.least(1), 102);
    }

    private static void phases() {
        ShelfJudge x = Rows.of(0, 1, 2, 3, 0, 1, 4, 0, 1, 2, 3, 4);
        int[] of3 = {0, 0, 0, 1, 1, 1, 2, 2, 2, 3, 3, 3};
        int[] of4 = {0, 0, 0, 0, 0, 0, 1, 1, 1, 1, 2, 2};
        for (int i = 0; i < of3.length; i++) {
            Due.is("20: phase(3, " + i + ")", x.phase(3, i), of3[i]);
            Due.is("20: phase(4, " + i + ")", x.phase(4, i), of4[i]);
            Due.is("20: phase(8, " + i + ")", x.phase(8, i), 0);
            Due.is("20: phase(1, " + i + ")", x.phase(1, i), i);
        }
        Due.is("19: phases(3)", x.phases(3), 4);
        Due.is("19: phases(4)", x.phases(4), 3);
        Due.is("19: phases(8)", x.phases(8), 1);
        Due.is("19: phases(1)", x.phases(1), 12);
        Due.is("19: phases(0)", x.phases(0), ShelfJudge.NUMBER);
        Due.is("19: phases(9)", x.phases(9), ShelfJudge.NUMBER);
        Due.is("19: no ASKINGS", new ShelfJudge().phases(1), 0);
        Due.is("20: no ASKINGS", new ShelfJudge().phase(1, 0), -1);
        Due.is("20: phase(3, 12)", x.phase(3, 12), -1);
        Due.is("20: phase(3, -1)", x.phase(3, -1), -1);
        Due.is("20: phase(0, 0)", x.phase(0, 0), -1);
        Due.is("20: phase(9, 0)", x.phase(9, 0), -1);
        ShelfJudge y = Rows.of(5, 5, 6, 6, 5);
        Due.is("19: like ones", y.phases(1), 3);
        Due.is("20: like ones", y.phase(1, 3), 1);
    }

    private static void distances() {
        ShelfJudge x = Rows.of(4, 4, 5, 5, 6, 4, 5, 7, 4);
        int[] want = {0, 1, 0, 1, 0, 3, 3, 0, 3, -1};
        for (int i = 0; i < want.length; i++) {
            Due.is("21: distance(" + i + ")", x.distance(i), want[i]);
        }
        Due.is("21: distance(-1)", x.distance(-1), -1);
        Due.is("21: distance(max)", x.distance(Integer.MAX_VALUE), -1);
    }

    private static void curve() {
        ShelfJudge x = Rows.of(4, 4, 5, 5, 6, 4, 5, 7, 4);
        int[] want = {9, 7, 7, 4, 4};
        for (int k = 0; k < want.length; k++) {
            Due.is("22: curve(" + k + ")", x.curve(k), want[k]);
        }
        Due.is("22: curve(max)", x.curve(Integer.MAX_VALUE), 4);
        Due.is("22: curve(-1)", x.curve(-1), ShelfJudge.NUMBER);
        Due.is("22: curve(min)", x.curve(Integer.MIN_VALUE), ShelfJudge.NUMBER);
        Due.is("22: no ASKINGS", new ShelfJudge().curve(0), 0);
    }

    private static void hard() {
        ShelfJudge x = Rows.of(9, 9, 9);
        Due.is("23: way -1", x.hard(-1, 2, 9), ShelfJudge.NUMBER);
        Due.is("23: way 9", x.hard(9, 2, 9), ShelfJudge.NUMBER);
        Due.is("23: k 0", x.hard(0, 0, 9), ShelfJudge.NUMBER);
        Due.is("23: k 9", x.hard(0, 9, 9), ShelfJudge.NUMBER);
        Due.is("23: n -1", x.hard(0, 2, -1), ShelfJudge.NUMBER);
        Due.is("23: n 301", x.hard(0, 2, 301), ShelfJudge.NUMBER);
        Due.is("23: AHEAD", x.hard(8, 2, 9), ShelfJudge.KIND);
        Due.is("23: AHEAD, n 301", x.hard(8, 2, 301), ShelfJudge.NUMBER);
        Due.is("23: THE ROW stays", x.asked(2), 9);
        x.claim(4);
        Due.is("23: hard(1, 2, 7)", x.hard(1, 2, 7), 7);
        int[] want = {0, 1, 2, 0, 1, 2, 0, -1};
        for (int i = 0; i < want.length; i++) {
            Due.is("23: asked(" + i + ")", x.asked(i), want[i]);
        }
        Due.is("23: what is told stays", x.many(2), 1);
        for (int way = 0; way < 8; way++) {
            for (int k = 1; k <= 8; k++) {
                x = new ShelfJudge();
                Due.is("23: n", x.hard(way, k, 300), 300);
                Due.is("23: all are MISSES, way " + way + ", k " + k, x.serve(way, k), 300);
                for (int i = 0; i < 300; i += 17) {
                    Due.is("23: the least absent", x.asked(i), leastAbsent(x, k, i - 1));
                }
            }
        }
        x = new ShelfJudge();
        x.price(0, 900);
        x.hard(7, 2, 5);
        int[] byPrice = {0, 1, 2, 1, 2};
        for (int i = 0; i < byPrice.length; i++) {
            Due.is("23: by PRICES, asked(" + i + ")", x.asked(i), byPrice[i]);
        }
        Due.is("23: n 0", x.hard(3, 8, 0), 0);
        Due.is("23: no ASKINGS", x.many(0), 0);
    }

    private static int leastAbsent(ShelfJudge x, int k, int behind) {
        for (int thing = 0; thing <= k; thing++) {
            if (behind < 0 || x.look(behind, thing, 0) == 0) {
                return thing;
            }
        }
        return -1;
    }
}
