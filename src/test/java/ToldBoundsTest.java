/** Promises 24 to 28, a test for each sentence, at the edges that it names. */
public final class ToldBoundsTest {
    private static final int MIN = Integer.MIN_VALUE;
    private static final int MAX = Integer.MAX_VALUE;
    private static final int NUMBER = -1;
    private static final int FULL = -2;
    private static final int STATE = -3;
    private static final int[] NO_PLACES = {0, -1, 9, MIN, MAX};

    public static void main(String[] args) {
        toldAreThingsOrNothing();
        claimComesToTheEnd();
        claimRefusesThings();
        claimFillsTheRow();
        copyTakesTheRun();
        copyWithoutRun();
        unclaimTakesAll();
        costOfEmptyAndDearest();
        costOfEachWay();
        costRefusesPlaces();
        costTellsTheFirstFault();
        costOfFewerOrMore();
        costOfGoingsThatNeedNotBe();
        costOfNothingGoing();
        costOfWhatDoesNotLieThere();
        checkOfEachWay();
        checkTellsTheFirst();
        checkOfMore();
        checkOfFewer();
        earlierTellingDoesNotCount();
        checkRefusesNumbers();
        Due.end();
    }

    private static void tell(ShelfJudge x, int... goings) {
        x.unclaim();
        for (int thing : goings) {
            x.claim(thing);
        }
    }

    /** 300 TOLD GOINGS by few calls: those of a run with room for all, each of them nothing. */
    private static ShelfJudge withFullTold() {
        ShelfJudge x = Rows.full(2);
        x.serve(0, 2);
        x.copy();
        return x;
    }

    // ---- promise 24

    private static void toldAreThingsOrNothing() {
        Due.sentence(0, "THE TOLD GOINGS are THINGS (or -1: nothing), one for each ASKING from 0 on,"
            + " at most 300.");
        ShelfJudge x = Rows.of(Rows.around(17, 16));
        tell(x, -1, 0, 1, 2, 3, 4, 5, 6, 7, 8, 9, 10, 11, 12, 13, 14, 15);
        Due.is("each THING", x.cost(1), 17);
        Due.is("how many", x.many(2), 17);
        ShelfJudge y = withFullTold();
        Due.is("at most 300", y.many(2), 300);
        Due.is("no more", y.claim(-1), FULL);
    }

    private static void claimComesToTheEnd() {
        Due.sentence(24, "A GOING comes to the end of what is told: how many.");
        ShelfJudge x = new ShelfJudge();
        for (int n = 1; n <= 300; n++) {
            Due.is("claim " + n, x.claim(n == 1 ? -1 : (n - 2) % 16), n);
        }
        for (int thing = 0; thing < 16; thing++) {
            x.price(thing, 1000);
        }
        Rows.add(x, Rows.around(300, 16));
        Due.is("they are told in their order", x.cost(1), 300000);
    }

    private static void claimRefusesThings() {
        Due.sentence(24, "NUMBER: thing isn't -1 to 15;");
        int[] none = {-2, 16, MIN, MAX};
        ShelfJudge x = new ShelfJudge();
        for (int thing : none) {
            Due.is("claim(" + thing + ")", x.claim(thing), NUMBER);
            Due.is("how many", x.many(2), 0);
        }
        Due.is("claim(-1)", x.claim(-1), 1);
        Due.is("claim(15)", x.claim(15), 2);
        ShelfJudge y = withFullTold();
        for (int thing : none) {
            Due.is("it is named first: claim(" + thing + ")", y.claim(thing), NUMBER);
        }
    }

    private static void claimFillsTheRow() {
        Due.sentence(24, "FULL: there are 300.");
        ShelfJudge x = withFullTold();
        for (int thing = -1; thing <= 15; thing++) {
            Due.is("claim(" + thing + ")", x.claim(thing), FULL);
        }
        Due.is("how many", x.many(2), 300);
        Due.is("they stay", x.check(0, 2), -1);
        x.cut(299);
        x.serve(0, 2);
        x.copy();
        Due.is("there are 299", x.many(2), 299);
        Due.is("the last one", x.claim(15), 300);
        Due.is("one more", x.claim(15), FULL);
        Due.is("they don't need THE ROW", x.cut(0), 0);
        Due.is("still full", x.claim(0), FULL);
    }

    // ---- promises 25 and 26

    private static void copyTakesTheRun() {
        Due.sentence(25, "THE TOLD GOINGS become those of THE LATEST RUN: how many.");
        for (int way = 0; way <= 8; way++) {
            ShelfJudge x = withFullTold();
            x.cut(0);
            x.serve(way, 1);
            Due.is("of an empty ROW, way " + way, x.copy(), 0);
            Due.is("nothing is told", x.many(2), 0);
            Due.is("nothing is told", x.check(way, 1), -1);
            Rows.add(x, Rows.around(300, 16));
            x.serve(way, 1);
            Due.is("of a full ROW, way " + way, x.copy(), 300);
            Due.is("how many", x.many(2), 300);
            Due.is("they are its goings", x.check(way, 1), -1);
            Due.is("they are its goings", x.cost(1), 300);
            x.cut(1);
            x.serve(way, 1);
            Due.is("fewer than were told", x.copy(), 1);
            Due.is("no more than those", x.check(way, 1), -1);
        }
        ShelfJudge y = Rows.served(0, 1, 3, 4);
        y.look(0, 0, 0);
        Due.is("behind a look", y.copy(), 2);
        Due.is("behind a look", y.check(0, 1), -1);
        y.claim(7);
        Due.is("the run keeps its own", y.gone(2), -1);
        Due.is("once more", y.copy(), 2);
        Due.is("once more", y.check(0, 1), -1);
    }

    private static void copyWithoutRun() {
        Due.sentence(25, "STATE.");
        ShelfJudge x = Rows.of(1, 2);
        tell(x, -1, 1);
        Due.is("copy", x.copy(), STATE);
        Due.is("what is told stays", x.check(0, 1), -1);
        x.serve(0, 2);
        x.price(0, 1);
        Due.is("a forgotten run", x.copy(), STATE);
        Due.is("what is told stays", x.check(0, 1), -1);
        Due.is("a new one", new ShelfJudge().copy(), STATE);
    }

    private static void unclaimTakesAll() {
        Due.sentence(26, "THE TOLD GOINGS are nothing: how many there were.");
        Due.is("none", new ShelfJudge().unclaim(), 0);
        ShelfJudge x = withFullTold();
        Due.is("as many as may be", x.unclaim(), 300);
        Due.is("how many", x.many(2), 0);
        Due.is("none any more", x.unclaim(), 0);
        Due.is("the first one", x.claim(4), 1);
        Due.is("one", x.unclaim(), 1);
        Due.is("the run stays", x.paid(), 2);
    }

    // ---- promise 27

    private static void costOfEmptyAndDearest() {
        Due.sentence(27, "What TOLD GOINGS would cost: with k PLACES, MISS by MISS the told THING"
            + " goes: what is paid for THE ROW.");
        for (int k = 1; k <= 8; k++) {
            Due.is("an empty ROW, nothing told, k " + k, new ShelfJudge().cost(k), 0);
        }
        ShelfJudge x = Rows.full(2);
        x.price(0, 1000);
        x.price(1, 1000);
        x.serve(1, 1);
        x.copy();
        Due.is("the most", x.cost(1), 300000);
        x.serve(1, 8);
        x.copy();
        Due.is("room for all", x.cost(8), 2000);
        ShelfJudge y = Rows.of(0, 1, 0, 2, 1);
        y.price(0, 1000);
        y.price(1, 50);
        tell(y, -1, -1, -1, 1, 0);
        Due.is("another choice", y.cost(2), 1101);
        tell(y, -1, -1, -1, 0, -1);
        Due.is("a better one", y.cost(2), 1051);
    }

    private static void costOfEachWay() {
        Due.sentence(27, "with k PLACES, MISS by MISS the told THING goes: what is paid for THE ROW.");
        for (int way = 0; way <= 8; way++) {
            for (int k = 1; k <= 8; k++) {
                ShelfJudge x = new ShelfJudge();
                x.price(3, 1000);
                x.price(7, 77);
                x.draw(300, 16, k);
                x.serve(way, k);
                x.copy();
                Due.is("way " + way + ", k " + k, x.cost(k), x.paid());
            }
        }
    }

    private static void costRefusesPlaces() {
        Due.sentence(27, "NUMBER is answered as -1: k isn't 1 to 8;");
        for (int k : NO_PLACES) {
            Due.is("cost(" + k + ") of nothing", new ShelfJudge().cost(k), -1);
            ShelfJudge x = Rows.of(1, 2);
            Due.is("it is named first: cost(" + k + ")", x.cost(k), -1);
            tell(x, -1, -1);
            Due.is("cost(" + k + ")", x.cost(k), -1);
        }
        ShelfJudge y = Rows.of(1, 2);
        tell(y, -1, 1);
        Due.is("cost(1)", y.cost(1), 2);
        tell(y, -1, -1);
        Due.is("cost(8)", y.cost(8), 2);
    }

    private static void costTellsTheFirstFault() {
        Due.sentence(27, "else -2 less the first ASKING at which what is told can't be");
        ShelfJudge x = Rows.of(0, 1, 2, 3);
        tell(x, 5, 5, 5, 5);
        Due.is("of all", x.cost(1), -2);
        tell(x, -1, 0, 5, 5);
        Due.is("of two", x.cost(1), -4);
        tell(x, -1, 0, 1, 5);
        Due.is("the last alone", x.cost(1), -5);
        tell(x, -1, 5);
        Due.is("ahead of too few", x.cost(1), -3);
        tell(x, -1, 0, 5, 2, 3, 3);
        Due.is("ahead of too many", x.cost(1), -4);
        ShelfJudge y = Rows.full(16);
        y.serve(0, 1);
        y.copy();
        y.change(299, 10);
        Due.is("the last of a full ROW is a HIT now", y.cost(1), -301);
        y.change(0, 9);
        Due.is("0 doesn't go for ASKING 1", y.cost(1), -3);
    }

    private static void costOfFewerOrMore() {
        Due.sentence(27, "(they are fewer, or more, than THE ROW's ASKINGS: the first number that the"
            + " one has and the other hasn't;");
        ShelfJudge x = new ShelfJudge();
        x.claim(-1);
        Due.is("one for no ASKING", x.cost(1), -2);
        Due.is("none for one ASKING", Rows.of(3).cost(1), -2);
        ShelfJudge y = Rows.of(3, 3, 3);
        tell(y, -1, -1);
        Due.is("one fewer", y.cost(1), -4);
        tell(y, -1);
        Due.is("two fewer", y.cost(1), -3);
        tell(y, -1, -1, -1, -1);
        Due.is("one more", y.cost(1), -5);
        tell(y, -1, -1, -1, -1, 4, 4);
        Due.is("three more", y.cost(1), -5);
        tell(y, -1, -1, -1, 4);
        Due.is("one more, and a wrong one", y.cost(1), -5);
        ShelfJudge z = withFullTold();
        z.cut(299);
        Due.is("300 for 299", z.cost(2), -301);
        z.cut(0);
        Due.is("300 for none", z.cost(2), -2);
        z.unclaim();
        Rows.add(z, Rows.around(299, 2));
        z.serve(0, 2);
        z.copy();
        z.ask(0, -1, -1, -1, -1);
        Due.is("299 for 300", z.cost(2), -301);
    }

    private static void costOfGoingsThatNeedNotBe() {
        Due.sentence(27, "something goes for a HIT, or while a PLACE is free;");
        ShelfJudge x = Rows.of(0, 1, 0, 0);
        tell(x, -1, -1, 1, -1);
        Due.is("for a HIT", x.cost(2), -4);
        tell(x, -1, -1, 0, -1);
        Due.is("the HIT's own THING", x.cost(2), -4);
        tell(x, -1, 0, -1, -1);
        Due.is("while a PLACE is free", x.cost(2), -3);
        tell(x, 0, -1, -1, -1);
        Due.is("from the empty SHELF", x.cost(2), -2);
        for (int k = 1; k <= 8; k++) {
            ShelfJudge y = Rows.of(Rows.around(k + 1, 16));
            tell(y);
            for (int i = 0; i < k; i++) {
                y.claim(-1);
            }
            y.claim(k - 1);
            Due.is("just full, k " + k, y.cost(k), k + 1);
            Due.is("one PLACE is free, k " + k, y.cost(k + 1), k < 8 ? -2 - k : -1);
        }
    }

    private static void costOfNothingGoing() {
        Due.sentence(27, "nothing goes though none is;");
        for (int k = 1; k <= 8; k++) {
            ShelfJudge x = Rows.of(Rows.around(k + 1, 16));
            for (int i = 0; i <= k; i++) {
                x.claim(-1);
            }
            Due.is("none is free, k " + k, x.cost(k), -2 - k);
            Due.is("one is free, k " + k, x.cost(k + 1), k < 8 ? k + 1 : -1);
        }
    }

    private static void costOfWhatDoesNotLieThere() {
        Due.sentence(27, "it doesn't lie there).");
        ShelfJudge x = Rows.of(0, 1, 2, 3);
        for (int thing = 0; thing <= 15; thing++) {
            tell(x, -1, -1, thing, thing == 0 ? 1 : 0);
            Due.is("what goes is " + thing, x.cost(2), thing <= 1 ? 4 : -4);
        }
        tell(x, -1, -1, 0, 0);
        Due.is("it went already", x.cost(2), -5);
        tell(x, -1, -1, 2, 2);
        Due.is("it is the one that comes", x.cost(2), -4);
        tell(x, -1, -1, 0, 2);
        Due.is("it came just now", x.cost(2), 4);
    }

    // ---- promise 28

    private static void checkOfEachWay() {
        Due.sentence(28, "-1 if THE TOLD GOINGS are what a WAY with k PLACES does for THE ROW;");
        for (int way = 0; way <= 8; way++) {
            for (int k = 1; k <= 8; k++) {
                Due.is("nothing of nothing", new ShelfJudge().check(way, k), -1);
                ShelfJudge x = new ShelfJudge();
                x.draw(300, 16, k);
                x.serve(way, k);
                x.copy();
                Due.is("way " + way + ", k " + k, x.check(way, k), -1);
                x.serve((way + 1) % 9, 9 - k);
                Due.is("whatever THE LATEST RUN is by", x.check(way, k), -1);
            }
        }
    }

    private static void checkTellsTheFirst() {
        Due.sentence(28, "else the first ASKING at which they aren't");
        ShelfJudge x = Rows.of(0, 1, 2, 3);
        tell(x, -1, 0, 1, 2);
        Due.is("all", x.check(0, 1), -1);
        tell(x, 0, 1, 2, 3);
        Due.is("the first", x.check(0, 1), 0);
        tell(x, -1, 0, 0, 0);
        Due.is("of two", x.check(0, 1), 2);
        tell(x, -1, 0, 1, 1);
        Due.is("the last", x.check(0, 1), 3);
        tell(x, -1, -1, -1, 2);
        Due.is("nothing went", x.check(0, 1), 1);
        tell(x, -1, -1, 1, 0);
        Due.is("it could go, but another one does", x.check(0, 2), 2);
        ShelfJudge y = Rows.full(16);
        y.serve(0, 1);
        y.copy();
        y.change(299, 10);
        Due.is("the last of a full ROW", y.check(0, 1), 299);
        y.change(1, 0);
        Due.is("the second", y.check(0, 1), 1);
    }

    private static void checkOfMore() {
        Due.sentence(28, "(how many ASKINGS there are, if there are more TOLD GOINGS).");
        ShelfJudge x = new ShelfJudge();
        x.claim(-1);
        Due.is("one for no ASKING", x.check(0, 1), 0);
        ShelfJudge y = Rows.of(0, 1);
        tell(y, -1, 0, -1);
        Due.is("one more", y.check(0, 1), 2);
        tell(y, -1, 0, 1, 1, 1);
        Due.is("three more", y.check(0, 1), 2);
        tell(y, -1, 1, 1);
        Due.is("one more, behind another fault", y.check(0, 1), 1);
        ShelfJudge z = withFullTold();
        z.cut(299);
        Due.is("300 for 299", z.check(0, 2), 299);
        z.cut(0);
        Due.is("300 for none", z.check(0, 2), 0);
    }

    private static void checkOfFewer() {
        Due.sentence(28, "else the first ASKING at which they aren't");
        Due.is("none for one", Rows.of(3).check(0, 1), 0);
        ShelfJudge x = Rows.of(0, 1, 0);
        tell(x, -1, -1);
        Due.is("one fewer, where nothing goes", x.check(0, 2), 2);
        tell(x, -1, 0);
        Due.is("one fewer, where one goes", x.check(0, 1), 2);
        tell(x, -1);
        Due.is("two fewer", x.check(0, 2), 1);
        ShelfJudge y = Rows.of(Rows.around(299, 2));
        y.serve(0, 2);
        y.copy();
        y.ask(0, -1, -1, -1, -1);
        Due.is("299 for 300", y.check(0, 2), 299);
    }

    /** What was told once and taken back, or stood behind a shorter copy, is told no more. */
    private static void earlierTellingDoesNotCount() {
        Due.sentence(26, "THE TOLD GOINGS are nothing:");
        ShelfJudge x = Rows.of(0, 1, 0);
        tell(x, -1, -1, -1);
        Due.is("all", x.check(0, 2), -1);
        for (int n = 0; n < 3; n++) {
            tell(x, -1, -1, -1);
            x.unclaim();
            for (int j = 0; j < n; j++) {
                x.claim(-1);
            }
            Due.is("check of " + n, x.check(0, 2), n);
            Due.is("cost of " + n, x.cost(2), -2 - n);
        }
        ShelfJudge y = Rows.served(0, 1, 0, 1, 0);
        y.copy();
        y.cut(2);
        y.serve(0, 1);
        y.copy();
        y.ask(0, -1, -1, -1, -1);
        Due.is("check behind a shorter copy", y.check(0, 1), 2);
        Due.is("cost behind a shorter copy", y.cost(1), -4);
    }

    private static void checkRefusesNumbers() {
        Due.sentence(28, "NUMBER is answered as -2: way isn't 0 to 8, or k not 1 to 8.");
        int[] noWays = {-1, 9, MIN, MAX};
        ShelfJudge x = Rows.of(0, 1);
        for (int way : noWays) {
            Due.is("check(" + way + ", 1)", x.check(way, 1), -2);
            Due.is("check(" + way + ", 8)", x.check(way, 8), -2);
            Due.is("check(" + way + ", 0)", x.check(way, 0), -2);
            Due.is("check(" + way + ", 1) of nothing", new ShelfJudge().check(way, 1), -2);
        }
        for (int k : NO_PLACES) {
            for (int way = 0; way <= 8; way++) {
                Due.is("check(" + way + ", " + k + ")", x.check(way, k), -2);
                Due.is("check(" + way + ", " + k + ") of nothing", new ShelfJudge().check(way, k), -2);
            }
        }
    }
}
