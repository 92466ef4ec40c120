import java.util.ArrayList;
import java.util.Arrays;
import java.util.List;

/**
 * Each call with each edge value in each place, in some states: it answers, and leaves behind, what
 * the naive judge does, and it never throws.
 */
public final class EdgeGridTest {
    private static final int[] EDGES = {Integer.MIN_VALUE, -2, -1, 0, 1, 2, 5, 6, 7, 8, 9, 15, 16, 17, 299,
        300, 301, Integer.MAX_VALUE};
    /** ask() has five places: fewer values for each. */
    private static final int[] EDGES_OF_ASK = {Integer.MIN_VALUE, -1, 0, 15, 16};

    private static final String[] CALLS = {"price", "ask", "draw", "change", "cut", "asked", "many", "serve",
        "paid", "hit", "gone", "look", "level", "fewest", "share", "least", "goes", "phases", "phase",
        "distance", "curve", "hard", "claim", "copy", "unclaim", "cost", "check"};

    private static final List<String> CHANGING = List.of("price", "ask", "draw", "change", "cut", "serve",
        "hard", "claim", "copy", "unclaim");

    /** The calls by which each state is made. */
    private static final Object[][][] STATES = {
        {},
        {{"serve", 2, 8}},
        {{"ask", 0, 1, 2, 0, 3}, {"ask", 1, 15, 0, 2, 2}, {"price", 0, 1000}, {"serve", 6, 2}, {"copy"}},
        {{"draw", 16, 16, 2}, {"serve", 3, 8}, {"claim", -1}},
        {{"hard", 2, 8, 299}, {"serve", 7, 8}, {"copy"}},
        {{"draw", 300, 16, 7}, {"serve", 5, 7}, {"copy"}},
    };

    private static final NaiveJudge[] KEPT = new NaiveJudge[STATES.length];

    public static void main(String[] args) {
        for (int state = 0; state < STATES.length; state++) {
            for (String call : CALLS) {
                boolean slow = call.equals("least") || call.equals("goes");
                if (!slow || state < 4) {
                    everyArgument(state, call, new Object[Calls.parameters(call)], 0);
                }
            }
        }
        Due.end();
    }

    private static void everyArgument(int state, String call, Object[] arguments, int at) {
        if (at == arguments.length) {
            compare(state, call, arguments);
            return;
        }
        for (int edge : call.equals("ask") ? EDGES_OF_ASK : EDGES) {
            arguments[at] = edge;
            everyArgument(state, call, arguments, at + 1);
        }
    }

    private static void compare(int state, String call, Object[] arguments) {
        ShelfJudge x = new ShelfJudge();
        bring(x, state);
        NaiveJudge y = naiveFor(state, call);
        String name = "state " + state + ", " + call + Arrays.toString(arguments);
        Due.is(name, Calls.answer(x, call, arguments), Calls.answer(y, call, arguments));
        Due.that(name + ": what it leaves", left(x).equals(left(y)));
    }

    /** A naive judge is slow to make: for calls that only tell one is used again. */
    private static NaiveJudge naiveFor(int state, String call) {
        boolean changes = CHANGING.contains(call);
        if (!changes && KEPT[state] != null) {
            return KEPT[state];
        }
        NaiveJudge made = new NaiveJudge();
        bring(made, state);
        if (!changes) {
            KEPT[state] = made;
        }
        return made;
    }

    private static void bring(Object judge, int state) {
        for (Object[] call : STATES[state]) {
            Calls.answer(judge, (String) call[0], Arrays.copyOfRange(call, 1, call.length));
        }
    }

    private static List<Integer> left(Object judge) {
        List<Integer> all = new ArrayList<>();
        for (int what = 0; what <= 3; what++) {
            all.add(Calls.answer(judge, "many", what));
        }
        int last = all.get(0) - 1;
        int[] askings = {0, 1, last / 2, last, last + 1};
        for (int i : askings) {
            all.add(Calls.answer(judge, "asked", i));
            all.add(Calls.answer(judge, "hit", i));
            all.add(Calls.answer(judge, "gone", i));
            all.add(Calls.answer(judge, "look", i, 0, 1));
            all.add(Calls.answer(judge, "level", i, 0));
        }
        all.add(Calls.answer(judge, "paid"));
        all.add(Calls.answer(judge, "share"));
        all.add(Calls.answer(judge, "cost", 2));
        return all;
    }
}
