import java.util.Arrays;

/** The least, phases, distances and promises 17 to 23, a test for each sentence, at its edges. */
public final class LeastBoundsTest {
    private static final int MIN = Integer.MIN_VALUE;
    private static final int MAX = Integer.MAX_VALUE;
    private static final int NUMBER = -1;
    private static final int KIND = -4;
    private static final int LARGE = -5;
    private static final int[] NO_PLACES = {0, -1, 9, MIN, MAX};

    public static void main(String[] args) {
        firstPhaseBeginsAtNone();
        phaseBeginsWithOneTooMany();
        distanceCountsUnlikeThings();
        distanceOfTheFirst();
        somethingMustGo();
        leastOfEmptyAndFull();
        leastOfOneObject();
        leastRefusesPlaces();
        leastRefusesElevenThings();
        lesserThingGoes();
        goesPaysTheLeast();
        goesOfNone();
        phasesOfEmptyAndFull();
        phasesRefusesPlaces();
        phaseOfAll();
        phaseOfNone();
        distanceOfAll();
        distanceOfNone();
        curveOfAll();
        curveRefusesBelowNone();
        hardReplacesTheRow();
        hardAsksForTheLeastAbsent();
        hardRefusesNumbers();
        hardRefusesAhead();
        Due.end();
    }

    // ---- the third term

    private static void firstPhaseBeginsAtNone() {
        Due.sentence(0, "PHASES for k: the first one begins with ASKING 0;");
        for (int k = 1; k <= 8; k++) {
            Due.is("one ASKING, k " + k, Rows.of(15).phase(k, 0), 0);
            Due.is("one ASKING, k " + k, Rows.of(15).phases(k), 1);
        }
    }

    private static void phaseBeginsWithOneTooMany() {
        Due.sentence(0, "each next one begins with the first ASKING for a THING that would be the (k"
            + " + 1)-th unlike one of the PHASE ahead of it.");
        for (int k = 1; k <= 8; k++) {
            ShelfJudge x = Rows.of(Rows.around(48, 16));
            for (int i = 0; i < 48; i++) {
                Due.is("unlike ones, k " + k + ", " + i, x.phase(k, i), i / k);
            }
            // k unlike ones as often as may be are one PHASE; the next one begins another.
            ShelfJudge y = Rows.of(Rows.join(Rows.around(4 * k, k), 15, 0));
            Due.is("the last of k unlike ones, k " + k, y.phase(k, 4 * k - 1), 0);
            Due.is("one more, k " + k, y.phase(k, 4 * k), 1);
            Due.is("the PHASE begins anew, k " + k, y.phase(k, 4 * k + 1), k == 1 ? 2 : 1);
        }
    }

    private static void distanceCountsUnlikeThings() {
        Due.sentence(0, "DISTANCE of an ASKING: how many unlike THINGS were asked for behind the"
            + " latest earlier ASKING for its THING, up to it, its THING too;");
        for (int things = 1; things <= 16; things++) {
            ShelfJudge x = Rows.of(Rows.around(48, things));
            for (int i = 0; i < 48; i++) {
                Due.is(things + " around, " + i, x.distance(i), i < things ? 0 : things);
            }
        }
        ShelfJudge y = Rows.of(3, 4, 3, 4, 4, 3, 3);
        int[] want = {0, 0, 2, 2, 1, 2, 1};
        for (int i = 0; i < want.length; i++) {
            Due.is("the latest earlier one, like ones once: " + i, y.distance(i), want[i]);
        }
    }

    private static void distanceOfTheFirst() {
        Due.sentence(0, "0 if there is none.");
        ShelfJudge x = Rows.of(Rows.around(16, 16));
        for (int i = 0; i < 16; i++) {
            Due.is("" + i, x.distance(i), 0);
        }
        int[] row = Rows.around(300, 15);
        row[299] = 15;
        Due.is("the last of a full ROW", Rows.of(row).distance(299), 0);
        row[0] = 15;
        Due.is("from the first to the last", Rows.of(row).distance(299), 16);
    }

    private static void somethingMustGo() {
        Due.sentence(0, "THE LEAST that can be paid: of all choices of what GOES, MISS by MISS"
            + " (something must go when the SHELF is full, nothing else may come or go).");
        ShelfJudge x = Rows.of(0, 1, 0);
        x.price(0, 1000);
        Due.is("1 can't be left outside", x.least(1), 2001);
        Due.is("nothing goes while a PLACE is free", x.least(2), 1001);
        // 0 is dear, but it must go, as 1 and 2 come with one PLACE.
        ShelfJudge y = Rows.of(0, 1, 2, 0);
        y.price(0, 1000);
        Due.is("one PLACE", y.least(1), 2002);
        Due.is("two PLACES", y.least(2), 1002);
    }

    // ---- promise 17

    private static void leastOfEmptyAndFull() {
        Due.sentence(17, "THE LEAST that can be paid for THE ROW with k PLACES.");
        for (int k = 1; k <= 8; k++) {
            Due.is("an empty ROW, k " + k, new ShelfJudge().least(k), 0);
            Due.is("one ASKING, k " + k, Rows.of(15).least(k), 1);
            Due.is("all lie there, k " + k, Rows.full(k).least(k), k);
            ShelfJudge x = Rows.full(10);
            Due.is("as AHEAD at one PRICE, k " + k, x.least(k), x.serve(8, k));
        }
        ShelfJudge y = Rows.full(2);
        y.price(0, 1000);
        y.price(1, 1000);
        Due.is("the most", y.least(1), 300000);
        Due.is("both lie there", y.least(2), 2000);
    }

    /** What was found for one k or one ROW is not told for another. */
    private static void leastOfOneObject() {
        Due.sentence(17, "THE LEAST that can be paid for THE ROW with k PLACES.");
        ShelfJudge x = drawnWithPrices();
        for (int j = 0; j < 16; j++) {
            int k = j < 8 ? j + 1 : 16 - j;
            ShelfJudge y = drawnWithPrices();
            Due.is("one k behind another, " + k, x.least(k), y.least(k));
            for (int i = 290; i < 300; i++) {
                Due.is("one k behind another, " + k + ", " + i, x.goes(k, i), y.goes(k, i));
            }
        }
        for (int k = 1; k <= 8; k++) {
            ShelfJudge z = Rows.of(Rows.around(40, 10));
            z.least(k);
            z.hard(0, 2, 10);
            z.least(k);
            z.cut(0);
            z.price(15, 1000);
            int[] upper = {15, 6, 14, 7, 13, 8, 12, 9, 11, 10, 15, 6, 14, 7, 13, 8, 12, 9, 11, 10};
            Rows.add(z, upper);
            ShelfJudge fresh = Rows.of(upper);
            fresh.price(15, 1000);
            Due.is("one ROW behind another, k " + k, z.least(k), fresh.least(k));
            for (int i = 0; i < 20; i++) {
                Due.is("one ROW behind another, k " + k + ", " + i, z.goes(k, i), fresh.goes(k, i));
            }
        }
    }

    private static ShelfJudge drawnWithPrices() {
        ShelfJudge x = new ShelfJudge();
        for (int thing = 0; thing < 10; thing++) {
            x.price(thing, 1000 - thing * 99);
        }
        x.draw(300, 10, 5);
        return x;
    }

    private static void leastRefusesPlaces() {
        Due.sentence(17, "NUMBER: k isn't 1 to 8;");
        for (int k : NO_PLACES) {
            Due.is("least(" + k + ")", Rows.of(1, 2).least(k), NUMBER);
            Due.is("least(" + k + ") of an empty ROW", new ShelfJudge().least(k), NUMBER);
            Due.is("it is named first: least(" + k + ")", Rows.full(11).least(k), NUMBER);
        }
    }

    private static void leastRefusesElevenThings() {
        Due.sentence(17, "LARGE: THE ROW has more than 10 unlike THINGS.");
        for (int k = 1; k <= 8; k++) {
            Due.is("ten, k " + k, Rows.of(Rows.around(10, 10)).least(k), 10);
            Due.is("eleven, k " + k, Rows.of(Rows.around(11, 11)).least(k), LARGE);
            Due.is("sixteen, k " + k, Rows.full(16).least(k), LARGE);
            Due.is("the last ten, k " + k, Rows.of(6, 7, 8, 9, 10, 11, 12, 13, 14, 15).least(k), 10);
        }
        ShelfJudge x = Rows.of(Rows.around(11, 11));
        x.change(10, 0);
        Due.is("ten by a change", x.least(1), 11);
        x.change(10, 15);
        Due.is("eleven by a change", x.least(1), LARGE);
        x.cut(10);
        Due.is("ten by a cut", x.least(1), 10);
    }

    // ---- promise 18

    private static void goes(String what, ShelfJudge x, int k, int... want) {
        for (int i = 0; i < want.length; i++) {
            Due.is(what + ": goes(" + k + ", " + i + ")", x.goes(k, i), want[i]);
        }
    }

    private static void lesserThingGoes() {
        Due.sentence(18, "Of the choices by which THE LEAST is paid the one by which, where they are"
            + " first unlike, the lesser THING goes: what goes for ASKING i;");
        goes("none is asked for any more", Rows.of(15, 0, 7), 2, -1, -1, 0);
        goes("in another order", Rows.of(0, 15, 7), 2, -1, -1, 0);
        goes("what came just now is the lesser", Rows.of(5, 9, 1, 8), 2, -1, -1, 5, 1);
        // 0 and 1 are both asked for once more, at one PRICE: 0 goes, though AHEAD lets 1 go.
        ShelfJudge x = Rows.of(0, 1, 2, 0, 1);
        goes("not the one of AHEAD", x, 2, -1, -1, 0, 2, -1);
        x.serve(8, 2);
        Rows.goings("AHEAD", x, -1, -1, 1, -1, 0);
        // The lesser one goes only where THE LEAST is paid by it.
        x.price(0, 2);
        goes("0 is dearer", x, 2, -1, -1, 1, -1, 0);
        goes("one PLACE", x, 1, -1, 0, 1, 2, 0);
        int[] row = Rows.around(300, 10);
        ShelfJudge y = Rows.of(row);
        Due.is("the last of a full ROW, k 1", y.goes(1, 299), 8);
        Due.is("none for the last PLACE", y.goes(8, 7), -1);
        Due.that("one when all are full", y.goes(8, 8) >= 0);
    }

    /** What goes is told to another object, as one has too few calls for both. */
    private static void goesPaysTheLeast() {
        Due.sentence(18, "Of the choices by which THE LEAST is paid the one");
        for (int k = 1; k <= 8; k++) {
            ShelfJudge x = new ShelfJudge();
            ShelfJudge y = new ShelfJudge();
            for (int thing = 0; thing < 10; thing++) {
                x.price(thing, 1 + thing * 111);
                y.price(thing, 1 + thing * 111);
            }
            x.draw(300, 10, k);
            y.draw(300, 10, k);
            for (int i = 0; i < 300; i++) {
                y.claim(x.goes(k, i));
            }
            Due.is("k " + k, y.cost(k), x.least(k));
        }
    }

    private static void goesOfNone() {
        Due.sentence(18, "-1: nothing does, there is no such ASKING, or least(k) is refused.");
        int[] sizes = {0, 1, 299, 300};
        for (int n : sizes) {
            ShelfJudge x = Rows.of(Rows.around(n, 2));
            int[] none = {-1, n, 300, 301, MIN, MAX};
            for (int i : none) {
                Due.is("goes(1, " + i + ") of " + n, x.goes(1, i), -1);
            }
        }
        goes("nothing does", Rows.of(3, 3, 4, 3), 2, -1, -1, -1, -1);
        ShelfJudge y = Rows.of(Rows.around(11, 10));
        Due.is("ten THINGS", y.goes(1, 5), 4);
        for (int k : NO_PLACES) {
            Due.is("goes(" + k + ", 5)", y.goes(k, 5), -1);
        }
        y.change(10, 10);
        Due.is("eleven THINGS", y.goes(1, 5), -1);
        y.cut(10);
        Due.is("ten again", y.goes(1, 5), 4);
    }

    // ---- promises 19 and 20

    private static void phasesOfEmptyAndFull() {
        Due.sentence(19, "How many PHASES THE ROW has for k.");
        for (int k = 1; k <= 8; k++) {
            Due.is("an empty ROW, k " + k, new ShelfJudge().phases(k), 0);
            Due.is("a full one, k " + k, Rows.full(16).phases(k), (300 + k - 1) / k);
            Due.is("a full one of k THINGS, k " + k, Rows.full(k).phases(k), 1);
            Due.is("just full PHASES, k " + k, Rows.of(Rows.around(2 * k, 16)).phases(k), 2);
            Due.is("one more, k " + k, Rows.of(Rows.join(Rows.around(2 * k, 16), 0)).phases(k), 3);
        }
    }

    private static void phasesRefusesPlaces() {
        Due.sentence(19, "NUMBER: k isn't 1 to 8.");
        for (int k : NO_PLACES) {
            Due.is("phases(" + k + ")", Rows.of(1, 2).phases(k), NUMBER);
            Due.is("phases(" + k + ") of an empty ROW", new ShelfJudge().phases(k), NUMBER);
        }
    }

    private static void phaseOfAll() {
        Due.sentence(20, "The PHASE (from 0 on) for k of ASKING i;");
        for (int k = 1; k <= 8; k++) {
            ShelfJudge x = Rows.full(16);
            for (int i = 0; i < 300; i++) {
                Due.is("phase(" + k + ", " + i + ")", x.phase(k, i), i / k);
            }
        }
    }

    private static void phaseOfNone() {
        Due.sentence(20, "-1: there is none such, or k isn't 1 to 8.");
        int[] sizes = {0, 1, 299, 300};
        for (int n : sizes) {
            ShelfJudge x = Rows.of(Rows.around(n, 2));
            int[] none = {-1, n, 300, 301, MIN, MAX};
            for (int i : none) {
                Due.is("phase(1, " + i + ") of " + n, x.phase(1, i), -1);
                Due.is("phase(8, " + i + ") of " + n, x.phase(8, i), -1);
            }
            for (int k : NO_PLACES) {
                Due.is("phase(" + k + ", 0) of " + n, x.phase(k, 0), -1);
            }
        }
    }

    // ---- promises 21 and 22

    private static void distanceOfAll() {
        Due.sentence(21, "The DISTANCE of ASKING i;");
        ShelfJudge x = Rows.full(16);
        for (int i = 0; i < 300; i++) {
            Due.is("distance(" + i + ")", x.distance(i), i < 16 ? 0 : 16);
        }
        ShelfJudge y = Rows.full(1);
        Due.is("the first of like ones", y.distance(0), 0);
        Due.is("the next one", y.distance(1), 1);
        Due.is("the last one", y.distance(299), 1);
    }

    private static void distanceOfNone() {
        Due.sentence(21, "-1 if there is none such.");
        int[] sizes = {0, 1, 299, 300};
        for (int n : sizes) {
            ShelfJudge x = Rows.of(Rows.around(n, 2));
            int[] none = {-1, n, 300, 301, MIN, MAX};
            for (int i : none) {
                Due.is("distance(" + i + ") of " + n, x.distance(i), -1);
            }
        }
    }

    private static void curveOfAll() {
        Due.sentence(22, "How many ASKINGS of THE ROW have the DISTANCE 0 or one above k.");
        for (int things = 1; things <= 16; things++) {
            ShelfJudge x = Rows.full(things);
            Due.is("all are above 0", x.curve(0), 300);
            Due.is("the last that is below", x.curve(things - 1), 300);
            Due.is("as many as that", x.curve(things), things);
            Due.is("more than there are", x.curve(things + 1), things);
            Due.is("more PLACES than may be", x.curve(301), things);
            Due.is("the most", x.curve(MAX), things);
        }
        Due.is("an empty ROW", new ShelfJudge().curve(0), 0);
        Due.is("an empty ROW", new ShelfJudge().curve(MAX), 0);
    }

    private static void curveRefusesBelowNone() {
        Due.sentence(22, "NUMBER: k is below 0.");
        int[] below = {-1, -2, MIN};
        for (int k : below) {
            Due.is("curve(" + k + ")", Rows.of(1, 2).curve(k), NUMBER);
            Due.is("curve(" + k + ") of an empty ROW", new ShelfJudge().curve(k), NUMBER);
        }
    }

    // ---- promise 23

    private static void hardReplacesTheRow() {
        Due.sentence(23, "THE ROW becomes n ASKINGS for THINGS 0 to k,");
        int[] counts = {0, 1, 299, 300};
        for (int way = 0; way < 8; way++) {
            for (int k = 1; k <= 8; k++) {
                for (int n : counts) {
                    ShelfJudge x = Rows.full(16);
                    String name = "hard(" + way + ", " + k + ", " + n + ")";
                    Due.is(name, x.hard(way, k, n), n);
                    Due.is(name + ": how many", x.many(0), n);
                    Due.is(name + ": nothing behind", x.asked(n), -1);
                    Due.is(name + ": unlike ones", x.many(1), Math.min(n, k + 1));
                }
            }
        }
    }

    private static void hardAsksForTheLeastAbsent() {
        Due.sentence(23, "each for the least of these that doesn't lie on the SHELF by a WAY with k"
            + " PLACES: n.");
        for (int way = 0; way < 8; way++) {
            for (int k = 1; k <= 8; k++) {
                ShelfJudge x = new ShelfJudge();
                x.price(0, 1000);
                x.hard(way, k, 40);
                Due.is("all are MISSES", x.serve(way, k), 40);
                for (int i = 0; i < 40; i++) {
                    int least = 0;
                    while (i > 0 && least < k && x.look(i - 1, least, 0) == 1) {
                        least++;
                    }
                    Due.is("way " + way + ", k " + k + ", asked(" + i + ")", x.asked(i), least);
                }
            }
        }
        ShelfJudge y = new ShelfJudge();
        y.hard(0, 1, 4);
        int[] one = {0, 1, 0, 1};
        for (int i = 0; i < one.length; i++) {
            Due.is("one PLACE, asked(" + i + ")", y.asked(i), one[i]);
        }
        y.hard(1, 8, 300);
        for (int i = 0; i < 300; i++) {
            Due.is("RESTING with 8 PLACES, asked(" + i + ")", y.asked(i), i % 9);
        }
    }

    private static void stays(String what, ShelfJudge x) {
        int[] row = new int[4];
        Arrays.setAll(row, x::asked);
        Due.that(what + ": THE ROW stays", Arrays.equals(row, new int[] {7, 8, 7, -1}));
    }

    private static void hardRefusesNumbers() {
        Due.sentence(23, "NUMBER: way isn't 0 to 8, k not 1 to 8, or n not 0 to 300;");
        int[] noWays = {-1, 9, MIN, MAX};
        int[] noCounts = {-1, 301, MIN, MAX};
        ShelfJudge x = Rows.of(7, 8, 7);
        for (int way : noWays) {
            Due.is("hard(" + way + ", 1, 0)", x.hard(way, 1, 0), NUMBER);
            Due.is("hard(" + way + ", 8, 300)", x.hard(way, 8, 300), NUMBER);
        }
        for (int way = 0; way <= 8; way++) {
            for (int k : NO_PLACES) {
                Due.is("hard(" + way + ", " + k + ", 0)", x.hard(way, k, 0), NUMBER);
                Due.is("hard(" + way + ", " + k + ", 300)", x.hard(way, k, 300), NUMBER);
            }
            for (int n : noCounts) {
                Due.is("hard(" + way + ", 1, " + n + ")", x.hard(way, 1, n), NUMBER);
                Due.is("hard(" + way + ", 8, " + n + ")", x.hard(way, 8, n), NUMBER);
            }
        }
        stays("NUMBER", x);
    }

    private static void hardRefusesAhead() {
        Due.sentence(23, "KIND: it is AHEAD.");
        ShelfJudge x = Rows.of(7, 8, 7);
        int[] counts = {0, 1, 299, 300};
        for (int k = 1; k <= 8; k++) {
            for (int n : counts) {
                Due.is("hard(8, " + k + ", " + n + ")", x.hard(8, k, n), KIND);
            }
        }
        stays("KIND", x);
        Due.is("hard(7, 8, 300)", x.hard(7, 8, 300), 300);
    }
}
