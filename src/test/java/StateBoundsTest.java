import java.util.function.Supplier;
import java.util.function.ToIntFunction;

/** What calls leave as it is: refused ones, the order of refusals, and when a run is forgotten. */
public final class StateBoundsTest {
    private static final int MIN = Integer.MIN_VALUE;
    private static final int MAX = Integer.MAX_VALUE;
    private static final int NUMBER = -1;
    private static final int FULL = -2;
    private static final int STATE = -3;
    private static final int KIND = -4;
    private static final int LARGE = -5;
    private static final int FAR_NUMBER = MIN;
    private static final int FAR_KIND = MIN + 1;

    private static final int[] SOME_ROW = {0, 1, 2, 0, 3, 4, 1, 0, 2, 15, 3, 0};

    public static void main(String[] args) {
        refusedInAnyState();
        refusedWithoutRun();
        refusedWithRun();
        refusedKinds();
        refusedWhenFull();
        refusedWhenLarge();
        refusedWhenEmpty();
        lookingChangesNothing();
        firstNamedOfRow();
        firstNamedOfRuns();
        firstNamedOfLeast();
        firstNamedOfTold();
        latestRunIsTheLatestServe();
        latestRunOutlivesRefusedServe();
        runIsForgotten();
        runIsForgottenThoughNothingChanges();
        runIsNotForgottenByRefusedCalls();
        runIsNotForgottenByOthers();
        lastCallOfAnObject();
        Due.end();
    }

    // ---- states

    private static ShelfJudge withRow(int... row) {
        ShelfJudge x = Rows.of(row);
        x.price(0, 1000);
        x.price(2, 3);
        x.price(15, 7);
        return x;
    }

    private static ShelfJudge withTold() {
        ShelfJudge x = withRow(SOME_ROW);
        x.serve(1, 3);
        x.copy();
        x.price(3, 20);
        return x;
    }

    private static ShelfJudge withRun(int way) {
        ShelfJudge x = withRow(SOME_ROW);
        x.serve(way, 3);
        x.copy();
        return x;
    }

    private static ShelfJudge full(int things) {
        ShelfJudge x = withRow(Rows.around(300, things));
        x.serve(6, 3);
        x.copy();
        return x;
    }

    private static ShelfJudge fullTold() {
        ShelfJudge x = full(9);
        x.cut(5);
        return x;
    }

    private static ShelfJudge eleven() {
        ShelfJudge x = withRow(Rows.around(13, 11));
        x.claim(-1);
        x.claim(4);
        return x;
    }

    private static ShelfJudge emptyRun() {
        ShelfJudge x = Rows.served(3, 8);
        x.claim(-1);
        x.claim(4);
        return x;
    }

    // ---- refused calls

    private static void quoteRefused() {
        Due.sentence(0, "A call that is refused (answers below 0, where not told otherwise) changes"
            + " nothing.");
    }

    private static void inAnyState(String what, ToIntFunction<ShelfJudge> call, int want) {
        Twins.unchanged(what + ", new", ShelfJudge::new, call, want);
        Twins.unchanged(what + ", told", StateBoundsTest::withTold, call, want);
        for (int way = 0; way <= 8; way++) {
            int by = way;
            Twins.unchanged(what + ", way " + way, () -> withRun(by), call, want);
        }
        Twins.unchanged(what + ", full", () -> full(16), call, want);
        Twins.unchanged(what + ", full of few", () -> full(9), call, want);
    }

    private static void refusedInAnyState() {
        quoteRefused();
        refusedOfRow();
        refusedOfPlaces();
        refusedOfHard();
        refusedOfAskings();
    }

    private static void refusedOfRow() {
        inAnyState("price(-1, 5)", x -> x.price(-1, 5), NUMBER);
        inAnyState("price(16, 5)", x -> x.price(16, 5), NUMBER);
        inAnyState("price(0, 0)", x -> x.price(0, 0), NUMBER);
        inAnyState("price(15, 1001)", x -> x.price(15, 1001), NUMBER);
        inAnyState("ask(16, ..)", x -> x.ask(16, 0, 0, 0, 0), NUMBER);
        inAnyState("ask(.., 16)", x -> x.ask(5, 6, 7, 8, 16), NUMBER);
        inAnyState("ask(.., -2, -1)", x -> x.ask(5, 6, 7, -2, -1), NUMBER);
        inAnyState("draw(-1, 5, 1)", x -> x.draw(-1, 5, 1), NUMBER);
        inAnyState("draw(301, 5, 1)", x -> x.draw(301, 5, 1), NUMBER);
        inAnyState("draw(1, 0, 1)", x -> x.draw(1, 0, 1), NUMBER);
        inAnyState("draw(1, 17, 1)", x -> x.draw(1, 17, 1), NUMBER);
        inAnyState("change(-1, 5)", x -> x.change(-1, 5), NUMBER);
        inAnyState("change(300, 5)", x -> x.change(300, 5), NUMBER);
        inAnyState("change(0, -1)", x -> x.change(0, -1), NUMBER);
        inAnyState("change(0, 16)", x -> x.change(0, 16), NUMBER);
        inAnyState("cut(-1)", x -> x.cut(-1), NUMBER);
        inAnyState("cut(301)", x -> x.cut(301), NUMBER);
        inAnyState("many(-1)", x -> x.many(-1), -1);
        inAnyState("many(4)", x -> x.many(4), -1);
        inAnyState("claim(-2)", x -> x.claim(-2), NUMBER);
        inAnyState("claim(16)", x -> x.claim(16), NUMBER);
    }

    private static void refusedOfPlaces() {
        inAnyState("serve(-1, 1)", x -> x.serve(-1, 1), NUMBER);
        inAnyState("serve(9, 1)", x -> x.serve(9, 1), NUMBER);
        inAnyState("check(-1, 1)", x -> x.check(-1, 1), -2);
        inAnyState("check(9, 1)", x -> x.check(9, 1), -2);
        int[] none = {0, 9};
        for (int k : none) {
            inAnyState("serve(0, " + k + ")", x -> x.serve(0, k), NUMBER);
            inAnyState("serve(8, " + k + ")", x -> x.serve(8, k), NUMBER);
            inAnyState("fewest(" + k + ")", x -> x.fewest(k), NUMBER);
            inAnyState("least(" + k + ")", x -> x.least(k), NUMBER);
            inAnyState("goes(" + k + ", 0)", x -> x.goes(k, 0), -1);
            inAnyState("phases(" + k + ")", x -> x.phases(k), NUMBER);
            inAnyState("phase(" + k + ", 0)", x -> x.phase(k, 0), -1);
            inAnyState("cost(" + k + ")", x -> x.cost(k), -1);
            inAnyState("check(0, " + k + ")", x -> x.check(0, k), -2);
        }
        inAnyState("curve(-1)", x -> x.curve(-1), NUMBER);
    }

    private static void refusedOfHard() {
        inAnyState("hard(-1, 1, 5)", x -> x.hard(-1, 1, 5), NUMBER);
        inAnyState("hard(9, 1, 5)", x -> x.hard(9, 1, 5), NUMBER);
        inAnyState("hard(0, 0, 5)", x -> x.hard(0, 0, 5), NUMBER);
        inAnyState("hard(0, 9, 5)", x -> x.hard(0, 9, 5), NUMBER);
        inAnyState("hard(0, 1, -1)", x -> x.hard(0, 1, -1), NUMBER);
        inAnyState("hard(0, 1, 301)", x -> x.hard(0, 1, 301), NUMBER);
        inAnyState("hard(8, 1, 5)", x -> x.hard(8, 1, 5), KIND);
        inAnyState("hard(8, 8, 0)", x -> x.hard(8, 8, 0), KIND);
    }

    private static void refusedOfAskings() {
        int[] none = {-1, 300};
        for (int i : none) {
            inAnyState("asked(" + i + ")", x -> x.asked(i), -1);
            inAnyState("gone(" + i + ")", x -> x.gone(i), -1);
            inAnyState("goes(2, " + i + ")", x -> x.goes(2, i), -1);
            inAnyState("phase(2, " + i + ")", x -> x.phase(2, i), -1);
            inAnyState("distance(" + i + ")", x -> x.distance(i), -1);
        }
    }

    private static void refusedWithoutRun() {
        quoteRefused();
        withoutRun("new", ShelfJudge::new);
        withoutRun("told", StateBoundsTest::withTold);
    }

    private static void withoutRun(String state, Supplier<ShelfJudge> maker) {
        Twins.unchanged("paid(), " + state, maker, x -> x.paid(), STATE);
        Twins.unchanged("hit(0), " + state, maker, x -> x.hit(0), STATE);
        Twins.unchanged("gone(0), " + state, maker, x -> x.gone(0), -1);
        Twins.unchanged("look(0, 0, 0), " + state, maker, x -> x.look(0, 0, 0), STATE);
        Twins.unchanged("level(0, 0), " + state, maker, x -> x.level(0, 0), STATE);
        Twins.unchanged("share(), " + state, maker, x -> x.share(), STATE);
        Twins.unchanged("copy(), " + state, maker, x -> x.copy(), STATE);
    }

    private static void refusedWithRun() {
        quoteRefused();
        int n = SOME_ROW.length;
        for (int way = 0; way <= 8; way++) {
            int by = way;
            Supplier<ShelfJudge> maker = () -> withRun(by);
            Twins.unchanged("change(n, 5)", maker, x -> x.change(n, 5), NUMBER);
            Twins.unchanged("cut(n + 1)", maker, x -> x.cut(n + 1), NUMBER);
            Twins.unchanged("hit(-1)", maker, x -> x.hit(-1), -1);
            Twins.unchanged("hit(n)", maker, x -> x.hit(n), -1);
            Twins.unchanged("gone(n)", maker, x -> x.gone(n), -1);
            Twins.unchanged("look(-1, 0, 0)", maker, x -> x.look(-1, 0, 0), FAR_NUMBER);
            Twins.unchanged("look(n, 0, 0)", maker, x -> x.look(n, 0, 0), FAR_NUMBER);
            Twins.unchanged("look(0, -1, 0)", maker, x -> x.look(0, -1, 0), FAR_NUMBER);
            Twins.unchanged("look(0, 16, 0)", maker, x -> x.look(0, 16, 0), FAR_NUMBER);
            Twins.unchanged("look(0, 0, -1)", maker, x -> x.look(0, 0, -1), FAR_NUMBER);
            Twins.unchanged("look(0, 0, 6)", maker, x -> x.look(0, 0, 6), FAR_NUMBER);
            Twins.unchanged("level(-1, 0)", maker, x -> x.level(-1, 0), FAR_NUMBER);
            Twins.unchanged("level(n, 0)", maker, x -> x.level(n, 0), FAR_NUMBER);
            Twins.unchanged("level(0, -1)", maker, x -> x.level(0, -1), FAR_NUMBER);
            Twins.unchanged("level(0, 5)", maker, x -> x.level(0, 5), FAR_NUMBER);
        }
    }

    private static void refusedKinds() {
        quoteRefused();
        int last = SOME_ROW.length - 1;
        int[] noWhat = {2, 3, 4, 4, 5, 5, 3, 4, 2};
        int[] noHow = {1, 2, 3, 4, 1, 3, 4, 1, 2};
        for (int way = 0; way <= 8; way++) {
            int by = way;
            int what = noWhat[way];
            int how = noHow[way];
            Supplier<ShelfJudge> maker = () -> withRun(by);
            Twins.unchanged("look(0, 0, " + what + ")", maker, x -> x.look(0, 0, what), FAR_KIND);
            Twins.unchanged("look(last, 15, " + what + ")", maker, x -> x.look(last, 15, what), FAR_KIND);
            Twins.unchanged("level(0, " + how + ")", maker, x -> x.level(0, how), FAR_KIND);
            Twins.unchanged("level(last, " + how + ")", maker, x -> x.level(last, how), FAR_KIND);
        }
    }

    private static void refusedWhenFull() {
        quoteRefused();
        refusedByFullRow("with a run", () -> full(9));
        refusedByFullRow("without a run", () -> withRow(Rows.around(300, 9)));
        refusedByFullTold("with a run", () -> full(9));
        refusedByFullTold("with a short ROW", StateBoundsTest::fullTold);
        Supplier<ShelfJudge> almost = () -> Rows.served(2, 3, Rows.around(299, 9));
        Twins.unchanged("two to 299", almost, x -> x.ask(5, 6, -1, -1, -1), FULL);
        Twins.unchanged("two drawn to 299", almost, x -> x.draw(2, 5, 1), FULL);
    }

    private static void refusedByFullRow(String state, Supplier<ShelfJudge> maker) {
        Twins.unchanged("ask(5, -1, ..), " + state, maker, x -> x.ask(5, -1, -1, -1, -1), FULL);
        Twins.unchanged("ask(5, 6, 7, 8, 9), " + state, maker, x -> x.ask(5, 6, 7, 8, 9), FULL);
        Twins.unchanged("draw(1, 5, 1), " + state, maker, x -> x.draw(1, 5, 1), FULL);
        Twins.unchanged("draw(300, 16, 1), " + state, maker, x -> x.draw(300, 16, 1), FULL);
    }

    private static void refusedByFullTold(String state, Supplier<ShelfJudge> maker) {
        Twins.unchanged("claim(-1), " + state, maker, x -> x.claim(-1), FULL);
        Twins.unchanged("claim(15), " + state, maker, x -> x.claim(15), FULL);
    }

    private static void refusedWhenLarge() {
        quoteRefused();
        refusedByEleven("with a run", () -> full(11));
        refusedByEleven("without a run", StateBoundsTest::eleven);
    }

    private static void refusedByEleven(String state, Supplier<ShelfJudge> maker) {
        for (int k = 1; k <= 8; k += 7) {
            int places = k;
            Twins.unchanged("least(" + k + "), " + state, maker, x -> x.least(places), LARGE);
            Twins.unchanged("goes(" + k + ", 12), " + state, maker, x -> x.goes(places, 12), -1);
        }
    }

    private static void refusedWhenEmpty() {
        quoteRefused();
        Supplier<ShelfJudge> maker = StateBoundsTest::emptyRun;
        Twins.unchanged("share()", maker, x -> x.share(), NUMBER);
        Twins.unchanged("hit(0)", maker, x -> x.hit(0), -1);
        Twins.unchanged("look(0, 0, 0)", maker, x -> x.look(0, 0, 0), FAR_NUMBER);
        Twins.unchanged("level(0, 0)", maker, x -> x.level(0, 0), FAR_NUMBER);
        Twins.unchanged("change(0, 0)", maker, x -> x.change(0, 0), NUMBER);
        Twins.unchanged("cut(1)", maker, x -> x.cut(1), NUMBER);
    }

    /** Calls that tell but do nothing: cost() and gone() may answer below 0 without being refused. */
    private static void lookingChangesNothing() {
        Due.sentence(0, "(answers below 0, where not told otherwise)");
        for (int way = 0; way <= 8; way++) {
            int by = way;
            Supplier<ShelfJudge> maker = () -> withRun(by);
            Twins.unchanged("gone(0)", maker, x -> x.gone(0), -1);
            Twins.unchanged("cost(1)", maker, x -> x.cost(1), -3);
            Twins.unchanged("check(way, 3)", maker, x -> x.check(by, 3), -1);
            Twins.unchanged("check(way, 1)", maker, x -> x.check(by, 1), 1);
            Twins.unchanged("look(0, 0, 1)", maker, x -> x.look(0, 0, 1), 1);
            Twins.unchanged("level(5, 0)", maker, x -> x.level(5, 0), 3);
            Twins.unchanged("fewest(8)", maker, x -> x.fewest(8), 0);
            Twins.unchanged("least(8)", maker, x -> x.least(8), 1013);
            Twins.unchanged("goes(1, 1)", maker, x -> x.goes(1, 1), 0);
            Twins.unchanged("phases(8)", maker, x -> x.phases(8), 1);
            Twins.unchanged("curve(0)", maker, x -> x.curve(0), 12);
            Twins.unchanged("copy() once more", maker, x -> x.copy(), 12);
        }
    }

    // ---- the first one named

    private static void quoteFirstNamed() {
        Due.sentence(0, "Of several refusals that a call names the first one named is answered.");
    }

    private static void firstNamedOfRow() {
        quoteFirstNamed();
        ShelfJudge x = Rows.full(16);
        Due.is("ask: NUMBER, FULL", x.ask(0, 0, 0, 0, 16), NUMBER);
        Due.is("ask: NUMBER, FULL", x.ask(-2, -1, -1, -1, -1), NUMBER);
        Due.is("ask: FULL alone", x.ask(0, -1, 16, 16, 16), FULL);
        Due.is("draw: NUMBER, FULL", x.draw(301, 5, 0), NUMBER);
        Due.is("draw: NUMBER, FULL", x.draw(1, 0, 0), NUMBER);
        Due.is("draw: NUMBER, FULL", x.draw(300, 17, 0), NUMBER);
        Due.is("draw: FULL alone", x.draw(1, 16, 0), FULL);
    }

    private static void firstNamedOfRuns() {
        quoteFirstNamed();
        ShelfJudge x = new ShelfJudge();
        Due.is("hit: STATE, NUMBER", x.hit(0), STATE);
        Due.is("hit: STATE, NUMBER", x.hit(-1), STATE);
        Due.is("look: STATE, NUMBER", x.look(0, 16, 6), STATE);
        Due.is("look: STATE, KIND", Rows.of(1).look(0, 0, 5), STATE);
        Due.is("level: STATE, NUMBER", x.level(0, 5), STATE);
        Due.is("level: STATE, KIND", Rows.of(1).level(0, 4), STATE);
        Due.is("share: STATE, NUMBER", x.share(), STATE);
        x.serve(0, 1);
        Due.is("share: NUMBER alone", x.share(), NUMBER);
        for (int what = 2; what <= 5; what++) {
            ShelfJudge y = Rows.served(0, 1, 1, 2);
            Due.is("look: NUMBER, KIND", y.look(2, 0, what), FAR_NUMBER);
            Due.is("look: NUMBER, KIND", y.look(-1, 0, what), FAR_NUMBER);
            Due.is("look: NUMBER, KIND", y.look(0, 16, what), FAR_NUMBER);
            Due.is("look: NUMBER, KIND", y.look(0, -1, what), FAR_NUMBER);
            Due.is("look: KIND alone", y.look(1, 15, what), FAR_KIND);
        }
        for (int how = 1; how <= 4; how++) {
            ShelfJudge y = Rows.served(0, 1, 1, 2);
            Due.is("level: NUMBER, KIND", y.level(2, how), FAR_NUMBER);
            Due.is("level: NUMBER, KIND", y.level(-1, how), FAR_NUMBER);
            Due.is("level: KIND alone", y.level(1, how), FAR_KIND);
        }
    }

    private static void firstNamedOfLeast() {
        quoteFirstNamed();
        ShelfJudge x = Rows.full(11);
        Due.is("least: NUMBER, LARGE", x.least(0), NUMBER);
        Due.is("least: NUMBER, LARGE", x.least(9), NUMBER);
        Due.is("least: LARGE alone", x.least(8), LARGE);
        Due.is("hard: NUMBER, KIND", x.hard(8, 0, 5), NUMBER);
        Due.is("hard: NUMBER, KIND", x.hard(8, 9, 5), NUMBER);
        Due.is("hard: NUMBER, KIND", x.hard(8, 8, -1), NUMBER);
        Due.is("hard: NUMBER, KIND", x.hard(8, 8, 301), NUMBER);
        Due.is("hard: KIND alone", x.hard(8, 8, 300), KIND);
    }

    private static void firstNamedOfTold() {
        quoteFirstNamed();
        ShelfJudge x = full(16);
        Due.is("claim: NUMBER, FULL", x.claim(-2), NUMBER);
        Due.is("claim: NUMBER, FULL", x.claim(16), NUMBER);
        Due.is("claim: FULL alone", x.claim(15), FULL);
        Due.is("cost: NUMBER ahead of a fault", x.cost(9), -1);
    }

    // ---- THE LATEST RUN

    private static void latestRunIsTheLatestServe() {
        Due.sentence(0, "THE LATEST RUN is the latest serve() that wasn't refused, with all that it"
            + " was by;");
        for (int first = 0; first <= 8; first++) {
            for (int second = 0; second <= 8; second++) {
                ShelfJudge x = withRun(first);
                x.look(5, 0, 0);
                x.serve(second, 2);
                ShelfJudge y = withRow(SOME_ROW);
                y.serve(second, 2);
                String name = "way " + second + " behind way " + first;
                Due.is(name + ": paid", x.paid(), y.paid());
                Due.is(name + ": share", x.share(), y.share());
                for (int i = 0; i < SOME_ROW.length; i++) {
                    Due.is(name + ": hit(" + i + ")", x.hit(i), y.hit(i));
                    Due.is(name + ": gone(" + i + ")", x.gone(i), y.gone(i));
                    for (int what = 0; what <= 5; what++) {
                        Due.is(name + ": look(" + i + ", 3, " + what + ")", x.look(i, 3, what),
                            y.look(i, 3, what));
                    }
                    for (int how = 0; how <= 4; how++) {
                        Due.is(name + ": level(" + i + ", " + how + ")", x.level(i, how), y.level(i, how));
                    }
                }
            }
        }
        ShelfJudge z = new ShelfJudge();
        z.serve(0, 1);
        Due.is("a run of an empty ROW is one", z.paid(), 0);
    }

    private static void latestRunOutlivesRefusedServe() {
        Due.sentence(0, "THE LATEST RUN is the latest serve() that wasn't refused,");
        int[][] refused = {{-1, 3}, {9, 3}, {0, 0}, {0, 9}, {8, 0}, {8, 9}, {MIN, 1}, {0, MAX}};
        for (int[] call : refused) {
            for (int way = 0; way <= 8; way++) {
                int by = way;
                Twins.unchanged("serve(" + call[0] + ", " + call[1] + ")", () -> withRun(by),
                    x -> x.serve(call[0], call[1]), NUMBER);
            }
        }
    }

    private static void forgotten(String what, ShelfJudge x) {
        Due.is(what + ": paid", x.paid(), STATE);
        Due.is(what + ": hit", x.hit(0), STATE);
        Due.is(what + ": gone", x.gone(4), -1);
        Due.is(what + ": look", x.look(0, 0, 0), STATE);
        Due.is(what + ": level", x.level(0, 0), STATE);
        Due.is(what + ": share", x.share(), STATE);
        Due.is(what + ": copy", x.copy(), STATE);
    }

    private static void forgets(String what, ToIntFunction<ShelfJudge> call, int want) {
        for (int way = 0; way <= 8; way++) {
            ShelfJudge x = withRun(way);
            Due.that(what + ": there is a run", x.gone(4) >= 0);
            Due.is(what, call.applyAsInt(x), want);
            forgotten(what + ", way " + way, x);
            Due.is(what + ": a new run is one again", x.serve(way, 8) >= 0 ? x.hit(0) : -9,
                x.many(0) > 0 ? 0 : -1);
        }
    }

    private static void runIsForgotten() {
        Due.sentence(0, "it is forgotten by each price(), ask(), draw(), change(), cut() and hard()"
            + " that isn't refused");
        forgets("price(0, 5)", x -> x.price(0, 5), 1);
        forgets("ask(1, ..)", x -> x.ask(1, -1, -1, -1, -1), 13);
        forgets("draw(1, 5, 0)", x -> x.draw(1, 5, 0), 13);
        forgets("change(0, 5)", x -> x.change(0, 5), 1);
        forgets("cut(11)", x -> x.cut(11), 11);
        forgets("cut(0)", x -> x.cut(0), 0);
        forgets("hard(0, 8, 300)", x -> x.hard(0, 8, 300), 300);
        forgets("hard(0, 8, 0)", x -> x.hard(0, 8, 0), 0);
    }

    private static void runIsForgottenThoughNothingChanges() {
        Due.sentence(0, "(also if nothing is otherwise by it).");
        forgets("the same PRICE", x -> x.price(0, 1000), 1);
        forgets("the PRICE of what is not asked for", x -> x.price(9, 1), 1);
        forgets("ask for nothing", x -> x.ask(-1, 0, 0, 0, 0), 12);
        forgets("draw nothing", x -> x.draw(0, 1, 0), 12);
        forgets("change to the same THING", x -> x.change(0, 0), 1);
        forgets("cut nothing off", x -> x.cut(12), 12);
        ShelfJudge made = new ShelfJudge();
        made.hard(3, 2, 9);
        made.serve(3, 2);
        made.hard(3, 2, 9);
        forgotten("hard once more", made);
        ShelfJudge empty = emptyRun();
        empty.hard(3, 8, 0);
        forgotten("hard of nothing", empty);
        ShelfJudge nothing = emptyRun();
        nothing.cut(0);
        forgotten("cut of nothing", nothing);
    }

    private static void keeps(String what, ToIntFunction<ShelfJudge> call) {
        ShelfJudge x = withRun(1);
        int paid = x.paid();
        call.applyAsInt(x);
        Due.is(what + ": paid", x.paid(), paid);
        Due.is(what + ": gone", x.gone(4), 1);
        Due.is(what + ": look", x.look(0, 0, 1), 1);
        Due.is(what + ": copy", x.copy(), 12);
    }

    private static void runIsNotForgottenByRefusedCalls() {
        Due.sentence(0, "that isn't refused (also if nothing is otherwise by it).");
        keeps("price", x -> x.price(16, 1));
        keeps("price", x -> x.price(0, 0));
        keeps("ask", x -> x.ask(16, 0, 0, 0, 0));
        keeps("draw", x -> x.draw(0, 0, 0));
        keeps("draw, FULL", x -> x.draw(289, 1, 0));
        keeps("change", x -> x.change(12, 0));
        keeps("change", x -> x.change(0, 16));
        keeps("cut", x -> x.cut(13));
        keeps("hard", x -> x.hard(9, 1, 0));
        keeps("hard", x -> x.hard(8, 1, 0));
    }

    private static void runIsNotForgottenByOthers() {
        Due.sentence(0, "it is forgotten by each price(), ask(), draw(), change(), cut() and hard()");
        keeps("asked", x -> x.asked(0));
        keeps("many", x -> x.many(1));
        keeps("paid", x -> x.paid());
        keeps("hit", x -> x.hit(0));
        keeps("gone", x -> x.gone(0));
        keeps("look", x -> x.look(11, 0, 0));
        keeps("level", x -> x.level(11, 0));
        keeps("fewest", x -> x.fewest(3));
        keeps("share", x -> x.share());
        keeps("least", x -> x.least(3));
        keeps("goes", x -> x.goes(3, 11));
        keeps("phases", x -> x.phases(3));
        keeps("phase", x -> x.phase(3, 11));
        keeps("distance", x -> x.distance(11));
        keeps("curve", x -> x.curve(3));
        keeps("claim", x -> x.claim(3));
        keeps("copy", x -> x.copy());
        keeps("unclaim", x -> x.unclaim());
        keeps("cost", x -> x.cost(3));
        keeps("check", x -> x.check(8, 3));
    }

    private static void lastCallOfAnObject() {
        Due.sentence(0, "An object is used for at most 512 calls after it has been made; what later"
            + " calls answer is free.");
        ShelfJudge x = new ShelfJudge();
        int calls = 0;
        for (; calls < 300; calls++) {
            Due.is("call " + calls, x.ask(calls % 16, -1, -1, -1, -1), calls + 1);
        }
        for (; calls < 509; calls++) {
            Due.is("call " + calls, x.serve(calls % 9, 1), 300);
        }
        Due.is("call 509", x.serve(7, 8), 300);
        Due.is("call 510", x.copy(), 300);
        Due.is("the last one", x.check(7, 8), -1);
    }
}
