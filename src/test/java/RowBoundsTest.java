import java.math.BigInteger;
import java.util.Arrays;

/** Promises 1 to 8, a test for each sentence, at the edges that it names. */
public final class RowBoundsTest {
    private static final int MIN = Integer.MIN_VALUE;
    private static final int MAX = Integer.MAX_VALUE;
    private static final int NUMBER = -1;
    private static final int FULL = -2;
    private static final int STATE = -3;

    public static void main(String[] args) {
        newRowIsEmpty();
        newObjectHasNoRun();
        newObjectHasNothingTold();
        newPricesAreOne();
        objectsShareNothing();
        priceSetsOneThing();
        priceRefusesThings();
        priceRefusesPrices();
        askStopsAtTheFirstNone();
        askRefusesThings();
        askFillsTheRow();
        drawAppends();
        drawBeginsWithSeed();
        drawWrapsAround();
        drawHasNoSign();
        drawRefusesNumbers();
        drawFillsTheRow();
        changeOneAsking();
        changeRefusesAskings();
        changeRefusesThings();
        cutKeepsTheFirst();
        cutRefusesTooMany();
        cutRefusesBelowNone();
        askedOfAll();
        askedOfNone();
        manyOfEmpty();
        manyOfFull();
        manyOfAnother();
        Due.end();
    }

    /** The prices of all things; THE ROW is used up by it. */
    private static void prices(String what, ShelfJudge x, int[] want) {
        for (int thing = 0; thing < 16; thing++) {
            x.cut(0);
            x.ask(thing, -1, -1, -1, -1);
            Due.is(what + ": PRICE of " + thing, x.many(3), want[thing]);
        }
    }

    private static int[] onesBut(int thing, int price) {
        int[] prices = new int[16];
        Arrays.fill(prices, 1);
        prices[thing] = price;
        return prices;
    }

    private static void row(String what, ShelfJudge x, int... want) {
        Due.is(what + ": how many", x.many(0), want.length);
        for (int i = 0; i < want.length; i++) {
            Due.is(what + ": asked(" + i + ")", x.asked(i), want[i]);
        }
        Due.is(what + ": nothing behind", x.asked(want.length), -1);
    }

    // ---- promise 1

    private static void newRowIsEmpty() {
        Due.sentence(1, "THE ROW is empty,");
        ShelfJudge x = new ShelfJudge();
        row("a new one", x);
        Due.is("unlike", x.many(1), 0);
        Due.is("sum", x.many(3), 0);
        Due.is("cut(0)", x.cut(0), 0);
        Due.is("cut(1)", x.cut(1), NUMBER);
        Due.is("change(0, 0)", x.change(0, 0), NUMBER);
        Due.is("serve", x.serve(0, 1), 0);
    }

    private static void newObjectHasNoRun() {
        Due.sentence(1, "there is no LATEST RUN,");
        ShelfJudge x = new ShelfJudge();
        Due.is("paid", x.paid(), STATE);
        Due.is("hit", x.hit(0), STATE);
        Due.is("gone", x.gone(0), -1);
        Due.is("look", x.look(0, 0, 0), STATE);
        Due.is("level", x.level(0, 0), STATE);
        Due.is("share", x.share(), STATE);
        Due.is("copy", x.copy(), STATE);
    }

    private static void newObjectHasNothingTold() {
        Due.sentence(1, "nothing is told.");
        ShelfJudge x = new ShelfJudge();
        Due.is("many(2)", x.many(2), 0);
        Due.is("cost", x.cost(1), 0);
        Due.is("check", x.check(0, 1), -1);
        Due.is("unclaim", x.unclaim(), 0);
        Due.is("the first one", x.claim(0), 1);
    }

    private static void newPricesAreOne() {
        Due.sentence(0, "each with a PRICE (1 to 1000; 1 at first).");
        prices("a new one", new ShelfJudge(), onesBut(0, 1));
    }

    private static void objectsShareNothing() {
        Due.sentence(1, "THE ROW is empty, there is no LATEST RUN, nothing is told.");
        ShelfJudge x = Rows.full(16);
        x.price(3, 1000);
        x.claim(3);
        x.serve(6, 8);
        ShelfJudge y = new ShelfJudge();
        Due.is("paid", y.paid(), STATE);
        Due.is("told", y.many(2), 0);
        row("made behind another one", y);
        prices("made behind another one", y, onesBut(0, 1));
        Due.is("the other one keeps its ROW", x.many(0), 300);
        Due.is("the other one keeps its TOLD GOINGS", x.many(2), 1);
    }

    // ---- promise 2

    private static void priceSetsOneThing() {
        Due.sentence(2, "The PRICE of a THING: 1.");
        int[] edges = {0, 15};
        int[] costs = {1, 2, 999, 1000};
        for (int thing : edges) {
            for (int cost : costs) {
                ShelfJudge x = new ShelfJudge();
                Due.is("price(" + thing + ", " + cost + ")", x.price(thing, cost), 1);
                prices("behind price(" + thing + ", " + cost + ")", x, onesBut(thing, cost));
            }
        }
        ShelfJudge y = new ShelfJudge();
        y.price(7, 1000);
        Due.is("from the most to the least", y.price(7, 1), 1);
        prices("the later one counts", y, onesBut(7, 1));
    }

    private static void priceRefusesThings() {
        Due.sentence(2, "NUMBER: there is none such,");
        int[] none = {-1, 16, MIN, MAX, 16 - 32, 1 << 16};
        for (int thing : none) {
            ShelfJudge x = new ShelfJudge();
            Due.is("price(" + thing + ", 7)", x.price(thing, 7), NUMBER);
            prices("behind price(" + thing + ", 7)", x, onesBut(0, 1));
        }
    }

    private static void priceRefusesPrices() {
        Due.sentence(2, "or it isn't 1 to 1000.");
        int[] none = {0, -1, 1001, MIN, MAX};
        for (int cost : none) {
            ShelfJudge x = new ShelfJudge();
            x.price(4, 500);
            Due.is("price(4, " + cost + ")", x.price(4, cost), NUMBER);
            prices("behind price(4, " + cost + ")", x, onesBut(4, 500));
        }
    }

    // ---- promise 3

    private static void askStopsAtTheFirstNone() {
        Due.sentence(3, "ASKINGS come to the end of THE ROW, for those ahead of the first that is -1:"
            + " how many it has.");
        int[] wrong = {16, -2, MIN, MAX, -1};
        for (int behind : wrong) {
            ShelfJudge x = Rows.of(9);
            Due.is("five", x.ask(0, 15, 1, 14, 2), 6);
            Due.is("four", x.ask(0, 15, 1, 14, -1), 10);
            Due.is("three", x.ask(3, 4, 5, -1, behind), 13);
            Due.is("two", x.ask(6, 7, -1, behind, behind), 15);
            Due.is("one", x.ask(8, -1, behind, 0, behind), 16);
            Due.is("none", x.ask(-1, behind, 0, 0, behind), 16);
            row("all", x, 9, 0, 15, 1, 14, 2, 0, 15, 1, 14, 3, 4, 5, 6, 7, 8);
        }
    }

    private static void askRefusesThings() {
        Due.sentence(3, "NUMBER: one of these is no THING;");
        int[] wrong = {16, -2, MIN, MAX};
        for (int at = 0; at < 5; at++) {
            for (int thing : wrong) {
                ShelfJudge x = Rows.of(9);
                int[] a = {1, 2, 3, 4, 5};
                a[at] = thing;
                Due.is("the one at " + at + " is " + thing, x.ask(a[0], a[1], a[2], a[3], a[4]), NUMBER);
                row("those ahead of it don't come", x, 9);
            }
        }
    }

    private static void askFillsTheRow() {
        Due.sentence(3, "FULL: it would have more than 300.");
        for (int come = 0; come <= 5; come++) {
            for (int had = 294; had <= 300; had++) {
                ShelfJudge x = Rows.of(Rows.around(had, 16));
                int[] a = {7, 7, 7, 7, 7};
                if (come < 5) {
                    a[come] = -1;
                }
                boolean fits = had + come <= 300;
                Due.is(come + " to " + had, x.ask(a[0], a[1], a[2], a[3], a[4]), fits ? had + come : FULL);
                Due.is("how many", x.many(0), fits ? had + come : had);
                Due.is("the last one", x.asked(had - 1), (had - 1) % 16);
                Due.is("the first that comes", x.asked(had), fits && come > 0 ? 7 : -1);
            }
        }
        ShelfJudge y = Rows.full(16);
        Due.is("NUMBER is named first", y.ask(0, 0, 0, 0, 16), NUMBER);
    }

    // ---- promise 4

    private static void drawAppends() {
        Due.sentence(4, "ASKINGS come to the end of THE ROW: n of them, for THINGS 0 to m - 1, drawn:");
        int[] counts = {0, 1, 299, 300};
        for (int n : counts) {
            for (int m = 1; m <= 16; m++) {
                ShelfJudge x = new ShelfJudge();
                Due.is("draw(" + n + ", " + m + ", 3)", x.draw(n, m, 3), n);
                Due.is("how many", x.many(0), n);
                for (int i = 0; i < n; i++) {
                    int thing = x.asked(i);
                    Due.that("asked(" + i + ") by " + m, thing >= 0 && thing < m);
                }
                if (n >= 299) {
                    Due.is("each of them comes", x.many(1), m);
                }
            }
        }
        ShelfJudge y = Rows.of(9, 8);
        Due.is("behind others", y.draw(1, 1, 3), 3);
        row("behind others", y, 9, 8, 0);
    }

    private static void drawn(int n, int m, int seed) {
        ShelfJudge x = new ShelfJudge();
        x.draw(n, m, seed);
        BigInteger modulus = BigInteger.ONE.shiftLeft(32);
        BigInteger state = BigInteger.valueOf(seed);
        for (int i = 0; i < n; i++) {
            state = state.multiply(BigInteger.valueOf(1103515245)).add(BigInteger.valueOf(12345));
            state = state.mod(modulus);
            int high = state.shiftRight(16).intValueExact();
            Due.is("draw(" + n + ", " + m + ", " + seed + "), asked(" + i + ")", x.asked(i), high % m);
        }
    }

    private static void drawBeginsWithSeed() {
        Due.sentence(4, "x is seed at first;");
        ShelfJudge x = new ShelfJudge();
        x.draw(1, 16, 0);
        // 12345 has nothing in its highest 16 bits.
        Due.is("from 0", x.asked(0), 0);
        x.draw(3, 16, 2);
        x.draw(3, 16, 2);
        for (int i = 1; i <= 3; i++) {
            Due.is("each call begins anew, asked(" + i + ")", x.asked(i + 3), x.asked(i));
        }
        int[] seeds = {0, 1, -1, 2, MIN, MIN + 1, MAX, MAX - 1, 65535, 65536, -65536};
        for (int seed : seeds) {
            drawn(40, 16, seed);
        }
    }

    private static void drawWrapsAround() {
        Due.sentence(4, "for each x becomes 1103515245 x + 12345 (an int, wrapping),");
        ShelfJudge x = new ShelfJudge();
        // 2 * 1103515245 + 12345 = 2207042835, above 2^31 - 1; its highest bits are 33676.
        x.draw(1, 10, 2);
        Due.is("the product wraps", x.asked(0), 6);
        // -1857678181 * 1103515245 wraps to 2^31 - 1, the sum to -2147471304; highest bits: 32768.
        x.draw(1, 5, -1857678181);
        Due.is("the sum wraps", x.asked(1), 3);
        for (int seed = -20; seed <= 20; seed++) {
            drawn(60, 13, seed * 107374182);
        }
    }

    private static void drawHasNoSign() {
        Due.sentence(4, "the THING is what (x / 65536, of the int's highest 16 bits as a number of 16"
            + " bits without sign) leaves by m: how many it has.");
        for (int m = 1; m <= 16; m++) {
            ShelfJudge x = new ShelfJudge();
            x.draw(1, m, 2);
            Due.is("33676 by " + m, x.asked(0), 33676 % m);
            x.draw(1, m, -1857678181);
            Due.is("32768 by " + m, x.asked(1), 32768 % m);
            drawn(50, m, 2);
        }
    }

    private static void drawRefusesNumbers() {
        Due.sentence(4, "NUMBER: n isn't 0 to 300, or m not 1 to 16;");
        int[] noCounts = {-1, 301, MIN, MAX};
        for (int n : noCounts) {
            ShelfJudge x = Rows.of(9);
            Due.is("draw(" + n + ", 1, 0)", x.draw(n, 1, 0), NUMBER);
            Due.is("draw(" + n + ", 16, 0)", x.draw(n, 16, 0), NUMBER);
            row("nothing comes", x, 9);
        }
        int[] noThings = {0, -1, 17, MIN, MAX};
        for (int m : noThings) {
            ShelfJudge x = Rows.of(9);
            Due.is("draw(0, " + m + ", 0)", x.draw(0, m, 0), NUMBER);
            Due.is("draw(5, " + m + ", 0)", x.draw(5, m, 0), NUMBER);
            row("nothing comes", x, 9);
        }
    }

    private static void drawFillsTheRow() {
        Due.sentence(4, "FULL: it would have more than 300.");
        int[] had = {0, 1, 150, 299, 300};
        for (int h : had) {
            ShelfJudge x = Rows.of(Rows.around(h, 16));
            if (h > 0) {
                Due.is("one too many", x.draw(301 - h, 2, 0), FULL);
                Due.is("far too many", x.draw(300, 2, 0), FULL);
                Due.is("NUMBER is named first, n", x.draw(301, 2, 0), NUMBER);
                Due.is("NUMBER is named first, m", x.draw(300, 0, 0), NUMBER);
                Due.is("NUMBER is named first, m", x.draw(300, 17, 0), NUMBER);
            }
            row("nothing comes", x, Rows.around(h, 16));
            Due.is("as many as may be", x.draw(300 - h, 2, 0), 300);
            Due.is("none to a full one", x.draw(0, 2, 0), 300);
            Due.is("one to a full one", x.draw(1, 2, 0), FULL);
        }
    }

    // ---- promise 5

    private static void changeOneAsking() {
        Due.sentence(5, "ASKING i is for another THING: 1.");
        int[] edges = {0, 150, 299};
        for (int i : edges) {
            for (int thing = 0; thing <= 15; thing += 15) {
                ShelfJudge x = Rows.full(16);
                int[] want = Rows.around(300, 16);
                want[i] = thing;
                Due.is("change(" + i + ", " + thing + ")", x.change(i, thing), 1);
                row("behind change(" + i + ", " + thing + ")", x, want);
            }
        }
        ShelfJudge y = Rows.of(4);
        Due.is("to the same one", y.change(0, 4), 1);
        row("to the same one", y, 4);
    }

    private static void changeRefusesAskings() {
        Due.sentence(5, "NUMBER: there is none such,");
        int[] sizes = {0, 1, 7, 299, 300};
        for (int n : sizes) {
            ShelfJudge x = Rows.of(Rows.around(n, 16));
            int[] none = {-1, n, n + 1, 300, 301, MIN, MAX};
            for (int i : none) {
                Due.is("change(" + i + ", 5) of " + n, x.change(i, 5), NUMBER);
            }
            row("it stays", x, Rows.around(n, 16));
        }
        ShelfJudge y = Rows.of(1, 2, 3);
        y.cut(1);
        Due.is("one that was cut off", y.change(1, 5), NUMBER);
        Due.is("the last one", y.change(0, 5), 1);
    }

    private static void changeRefusesThings() {
        Due.sentence(5, "or no such THING.");
        int[] none = {-1, 16, MIN, MAX};
        for (int thing : none) {
            ShelfJudge x = Rows.of(1, 2, 3);
            Due.is("change(0, " + thing + ")", x.change(0, thing), NUMBER);
            Due.is("change(2, " + thing + ")", x.change(2, thing), NUMBER);
            row("it stays", x, 1, 2, 3);
        }
    }

    // ---- promise 6

    private static void cutKeepsTheFirst() {
        Due.sentence(6, "THE ROW keeps its first n ASKINGS: n.");
        int[] keep = {0, 1, 150, 299, 300};
        for (int n : keep) {
            ShelfJudge x = Rows.full(16);
            Due.is("cut(" + n + ")", x.cut(n), n);
            row("cut(" + n + ")", x, Rows.around(n, 16));
            Due.is("once more", x.cut(n), n);
        }
        ShelfJudge y = Rows.of(1, 2, 3);
        y.cut(1);
        y.ask(9, -1, -1, -1, -1);
        row("what was cut off doesn't come back", y, 1, 9);
    }

    private static void cutRefusesTooMany() {
        Due.sentence(6, "NUMBER: it has not so many,");
        int[] sizes = {0, 1, 299, 300};
        for (int n : sizes) {
            ShelfJudge x = Rows.of(Rows.around(n, 16));
            Due.is("cut(" + (n + 1) + ") of " + n, x.cut(n + 1), NUMBER);
            Due.is("cut(max) of " + n, x.cut(MAX), NUMBER);
            Due.is("cut(301) of " + n, x.cut(301), NUMBER);
            row("it stays", x, Rows.around(n, 16));
        }
        ShelfJudge y = Rows.of(1, 2, 3);
        y.cut(1);
        Due.is("as many as it had", y.cut(3), NUMBER);
        Due.is("one more than it has", y.cut(2), NUMBER);
    }

    private static void cutRefusesBelowNone() {
        Due.sentence(6, "or n is below 0.");
        int[] sizes = {0, 3};
        for (int n : sizes) {
            ShelfJudge x = Rows.of(Rows.around(n, 16));
            Due.is("cut(-1) of " + n, x.cut(-1), NUMBER);
            Due.is("cut(min) of " + n, x.cut(MIN), NUMBER);
            row("it stays", x, Rows.around(n, 16));
        }
    }

    // ---- promises 7 and 8

    private static void askedOfAll() {
        Due.sentence(7, "The THING of ASKING i;");
        ShelfJudge x = Rows.full(16);
        for (int i = 0; i < 300; i++) {
            Due.is("asked(" + i + ")", x.asked(i), i % 16);
        }
    }

    private static void askedOfNone() {
        Due.sentence(7, "-1 if there is none such.");
        int[] sizes = {0, 1, 299, 300};
        for (int n : sizes) {
            ShelfJudge x = Rows.of(Rows.around(n, 16));
            int[] none = {-1, n, 300, 301, MIN, MAX};
            for (int i : none) {
                Due.is("asked(" + i + ") of " + n, x.asked(i), -1);
            }
        }
    }

    private static void manyOfEmpty() {
        Due.sentence(8, "How many: what = 0 ASKINGS, 1 unlike THINGS in THE ROW, 2 TOLD GOINGS, 3 the"
            + " sum of all PRICES of THE ROW's ASKINGS;");
        ShelfJudge x = Rows.of(4, 4);
        x.cut(0);
        for (int what = 0; what <= 3; what++) {
            Due.is("many(" + what + ") of an emptied one", x.many(what), 0);
        }
    }

    private static void manyOfFull() {
        Due.sentence(8, "How many: what = 0 ASKINGS, 1 unlike THINGS in THE ROW, 2 TOLD GOINGS, 3 the"
            + " sum of all PRICES of THE ROW's ASKINGS;");
        ShelfJudge x = Rows.full(16);
        Due.is("ASKINGS", x.many(0), 300);
        Due.is("all THINGS", x.many(1), 16);
        Due.is("nothing told", x.many(2), 0);
        Due.is("at one each", x.many(3), 300);
        for (int thing = 0; thing < 16; thing++) {
            x.price(thing, 1000);
        }
        Due.is("the dearest", x.many(3), 300000);
        x.serve(0, 8);
        x.copy();
        Due.is("as many told as may be", x.many(2), 300);
        ShelfJudge y = Rows.of(0, 15, 0, 15);
        Due.is("the first and the last THING", y.many(1), 2);
    }

    private static void manyOfAnother() {
        Due.sentence(8, "-1 for another what.");
        int[] none = {-1, 4, 5, MIN, MAX};
        for (int what : none) {
            Due.is("many(" + what + ")", Rows.of(1, 2).many(what), -1);
            Due.is("many(" + what + ") of an empty one", new ShelfJudge().many(what), -1);
        }
    }
}
