/** Promises 9 to 16, a test for each sentence, at the edges that it names. */
public final class RunBoundsTest {
    private static final int MIN = Integer.MIN_VALUE;
    private static final int MAX = Integer.MAX_VALUE;
    private static final int NUMBER = -1;
    private static final int STATE = -3;
    private static final int FAR_NUMBER = MIN;
    private static final int FAR_KIND = MIN + 1;
    private static final int[] NO_WAYS = {-1, 9, MIN, MAX};
    private static final int[] NO_PLACES = {0, -1, 9, MIN, MAX};
    private static final int[] NO_THINGS = {-1, 16, MIN, MAX};

    /** Of each way what look() tells beside 0 and 1, and what level() tells beside 0. */
    private static final int[][] WHATS = {{}, {}, {2}, {2, 3}, {}, {4}, {4}, {5}, {}};
    private static final int[] HOWS = {0, 0, 1, 2, 0, 0, 3, 4, 0};

    public static void main(String[] args) {
        serveEmpty();
        serveFull();
        serveRefusesWays();
        serveRefusesPlaces();
        paidOfEmptyAndDearest();
        paidWithoutRun();
        hitOfAll();
        hitWithoutRun();
        hitOfNone();
        goneOfAll();
        goneOfNone();
        lookLies();
        lookCount();
        lookMarked();
        lookPlace();
        lookPart();
        lookCredit();
        lookWithoutRun();
        lookOfNone();
        lookOfAnotherKind();
        levelLying();
        levelOfWays();
        levelWithoutRun();
        levelOfNone();
        levelOfAnotherKind();
        fewestOfEachWay();
        fewestLeavesTheRun();
        fewestRefusesPlaces();
        shareOfAll();
        shareByFloats();
        shareWithoutRun();
        shareOfEmpty();
        Due.end();
    }

    private static boolean holds(int[] some, int one) {
        for (int each : some) {
            if (each == one) {
                return true;
            }
        }
        return false;
    }

    // ---- promise 9

    private static void serveEmpty() {
        Due.sentence(9, "THE ROW is served by a WAY, with k PLACES: how many MISSES.");
        for (int way = 0; way <= 8; way++) {
            for (int k = 1; k <= 8; k++) {
                Due.is("an empty ROW, way " + way + ", k " + k, new ShelfJudge().serve(way, k), 0);
            }
        }
    }

    private static void serveFull() {
        Due.sentence(9, "THE ROW is served by a WAY, with k PLACES: how many MISSES.");
        for (int way = 0; way <= 8; way++) {
            for (int k = 1; k <= 8; k++) {
                String name = "way " + way + ", k " + k;
                ShelfJudge x = Rows.full(k);
                Due.is(name + ": all lie there", x.serve(way, k), k);
                ShelfJudge y = new ShelfJudge();
                y.draw(300, 16, way * 10 + k);
                int misses = y.serve(way, k);
                int counted = 0;
                for (int i = 0; i < 300; i++) {
                    counted += y.hit(i) == 0 ? 1 : 0;
                }
                Due.is(name + ": they are the MISSES", misses, counted);
            }
        }
        for (int way = 0; way < 8; way++) {
            Due.is("16 around, way " + way, Rows.full(16).serve(way, 7), 300);
        }
    }

    private static void serveRefusesWays() {
        Due.sentence(9, "NUMBER: way isn't 0 to 8,");
        for (int way : NO_WAYS) {
            ShelfJudge x = Rows.of(1, 2);
            Due.is("serve(" + way + ", 1)", x.serve(way, 1), NUMBER);
            Due.is("serve(" + way + ", 8)", x.serve(way, 8), NUMBER);
            Due.is("serve(" + way + ", 0)", x.serve(way, 0), NUMBER);
            Due.is("there is no run by it", x.paid(), STATE);
        }
    }

    private static void serveRefusesPlaces() {
        Due.sentence(9, "or k not 1 to 8.");
        for (int k : NO_PLACES) {
            for (int way = 0; way <= 8; way++) {
                ShelfJudge x = Rows.of(1, 2);
                Due.is("serve(" + way + ", " + k + ")", x.serve(way, k), NUMBER);
                Due.is("there is no run by it", x.paid(), STATE);
            }
        }
    }

    // ---- promises 10 to 12

    private static void paidOfEmptyAndDearest() {
        Due.sentence(10, "What was paid in THE LATEST RUN.");
        for (int way = 0; way <= 8; way++) {
            Due.is("an empty ROW, way " + way, Rows.served(way, 8).paid(), 0);
            ShelfJudge x = Rows.full(2);
            x.price(0, 1000);
            x.price(1, 1000);
            x.serve(way, 1);
            Due.is("the dearest, way " + way, x.paid(), 300000);
            x.serve(way, 2);
            Due.is("the next one, way " + way, x.paid(), 2000);
        }
    }

    private static void paidWithoutRun() {
        Due.sentence(10, "STATE.");
        Due.is("a new one", new ShelfJudge().paid(), STATE);
        Due.is("a ROW alone", Rows.of(1, 2).paid(), STATE);
    }

    private static void hitOfAll() {
        Due.sentence(11, "Of ASKING i in THE LATEST RUN: 1 a HIT, 0 a MISS.");
        for (int way = 0; way <= 8; way++) {
            ShelfJudge x = Rows.full(1);
            x.serve(way, 1);
            for (int i = 0; i < 300; i++) {
                Due.is("hit(" + i + "), way " + way, x.hit(i), i == 0 ? 0 : 1);
            }
        }
    }

    private static void hitWithoutRun() {
        Due.sentence(11, "STATE;");
        int[] askings = {0, 1, 2, -1, 300, MIN, MAX};
        for (int i : askings) {
            Due.is("hit(" + i + ")", Rows.of(1, 2).hit(i), STATE);
        }
    }

    private static void hitOfNone() {
        Due.sentence(11, "NUMBER is answered as -1: there is none such.");
        int[] sizes = {0, 1, 299, 300};
        for (int n : sizes) {
            ShelfJudge x = Rows.served(0, 1, Rows.around(n, 2));
            int[] none = {-1, n, 300, 301, MIN, MAX};
            for (int i : none) {
                Due.is("hit(" + i + ") of " + n, x.hit(i), -1);
            }
        }
    }

    private static void goneOfAll() {
        Due.sentence(12, "The THING that went for ASKING i in THE LATEST RUN;");
        for (int way = 0; way <= 8; way++) {
            ShelfJudge x = Rows.served(way, 1, Rows.around(300, 16));
            for (int i = 1; i < 300; i++) {
                Due.is("gone(" + i + "), way " + way, x.gone(i), (i - 1) % 16);
            }
        }
    }

    private static void goneOfNone() {
        Due.sentence(12, "-1: none did, there is none such, or no LATEST RUN.");
        for (int way = 0; way <= 8; way++) {
            ShelfJudge x = Rows.served(way, 2, 1, 1, 2, 1);
            Rows.goings("none did, way " + way, x, -1, -1, -1, -1);
        }
        int[] sizes = {0, 1, 299, 300};
        for (int n : sizes) {
            ShelfJudge x = Rows.served(0, 1, Rows.around(n, 2));
            int[] none = {-1, n, 300, 301, MIN, MAX};
            for (int i : none) {
                Due.is("gone(" + i + ") of " + n, x.gone(i), -1);
            }
        }
        ShelfJudge y = Rows.served(0, 1, 1, 2);
        Due.is("ahead of it", y.gone(1), 1);
        y.price(9, 1);
        Due.is("no LATEST RUN", y.gone(1), -1);
        Due.is("no LATEST RUN, none such", y.gone(2), -1);
    }

    // ---- promise 13

    private static void lookLies() {
        Due.sentence(13, "THE LATEST RUN as it stood behind ASKING i: of a THING what = 0: 1 if it"
            + " lies there, else 0;");
        for (int way = 0; way <= 8; way++) {
            ShelfJudge x = Rows.served(way, 1, Rows.around(300, 16));
            // Forth and back, as each looks at another moment of the same run.
            int[] askings = {0, 299, 0, 15, 16, 298, 1};
            for (int i : askings) {
                for (int thing = 0; thing < 16; thing++) {
                    Due.is("way " + way + ": " + thing + " behind " + i, x.look(i, thing, 0),
                        thing == i % 16 ? 1 : 0);
                }
            }
        }
    }

    private static void lookCount() {
        Due.sentence(13, "1: its COUNT (0 if it doesn't lie there);");
        for (int way = 0; way <= 8; way++) {
            ShelfJudge x = Rows.served(way, 1, 15, 15, 15, 0, 15);
            int[] want = {1, 2, 3, 0, 1};
            for (int i = 0; i < want.length; i++) {
                Due.is("way " + way + ": behind " + i, x.look(i, 15, 1), want[i]);
                Due.is("way " + way + ": never asked for", x.look(i, 7, 1), 0);
            }
        }
    }

    private static void lookMarked() {
        Due.sentence(13, "2: 1 if it is MARKED, else 0 (MARKING, CLOCK);");
        ShelfJudge x = Rows.served(2, 1, 15, 0, 0);
        Due.is("MARKING: 15 behind 0", x.look(0, 15, 2), 1);
        Due.is("MARKING: 15 behind 1", x.look(1, 15, 2), 0);
        Due.is("MARKING: 0 behind 0", x.look(0, 0, 2), 0);
        Due.is("MARKING: 0 behind 1", x.look(1, 0, 2), 1);
        ShelfJudge y = Rows.served(3, 1, 15, 15, 0, 0);
        int[] fifteen = {0, 1, 0, 0};
        int[] nought = {0, 0, 0, 1};
        for (int i = 0; i < 4; i++) {
            Due.is("CLOCK: 15 behind " + i, y.look(i, 15, 2), fifteen[i]);
            Due.is("CLOCK: 0 behind " + i, y.look(i, 0, 2), nought[i]);
        }
    }

    private static void lookPlace() {
        Due.sentence(13, "3: its PLACE (CLOCK; -1 if it doesn't lie there);");
        ShelfJudge x = Rows.served(3, 8, Rows.around(16, 16));
        for (int thing = 0; thing < 16; thing++) {
            Due.is(thing + " behind 7", x.look(7, thing, 3), thing < 8 ? thing : -1);
            Due.is(thing + " behind 15", x.look(15, thing, 3), thing < 8 ? -1 : thing - 8);
        }
    }

    private static void lookPart() {
        Due.sentence(13, "4: 1 in ONCE, 2 in TWICE, 3 in the first BOOK, 4 in the second one, 0 in"
            + " none (TWOFOLD, BALANCE);");
        // 1 comes from the first BOOK, so that 2 goes there; then 1 goes from TWICE.
        int[] row = {0, 1, 2, 1, 0};
        int[][] once = {{1, 0, 0}, {3, 1, 0}, {0, 3, 1}, {0, 2, 3}, {1, 0, 3}};
        ShelfJudge x = Rows.served(5, 1, row);
        ShelfJudge y = Rows.served(6, 1, row);
        for (int i = 0; i < row.length; i++) {
            for (int thing = 0; thing < 3; thing++) {
                boolean wentFromTwice = i == 4 && thing == 1;
                Due.is("TWOFOLD: " + thing + " behind " + i, x.look(i, thing, 4), once[i][thing]);
                Due.is("BALANCE: " + thing + " behind " + i, y.look(i, thing, 4),
                    wentFromTwice ? 4 : once[i][thing]);
            }
            Due.is("TWOFOLD: never asked for", x.look(i, 15, 4), 0);
            Due.is("BALANCE: never asked for", y.look(i, 15, 4), 0);
        }
    }

    private static void lookCredit() {
        Due.sentence(13, "5: its CREDIT (GREEDY; 0 if it doesn't lie there).");
        ShelfJudge x = Rows.of(15, 0, 15);
        x.price(15, 1000);
        x.serve(7, 1);
        int[] fifteen = {1000, 0, 2001};
        int[] nought = {0, 1001, 0};
        for (int i = 0; i < 3; i++) {
            Due.is("15 behind " + i, x.look(i, 15, 5), fifteen[i]);
            Due.is("0 behind " + i, x.look(i, 0, 5), nought[i]);
            Due.is("never asked for", x.look(i, 7, 5), 0);
        }
    }

    private static void lookWithoutRun() {
        Due.sentence(13, "STATE;");
        ShelfJudge x = Rows.of(1, 2);
        for (int what = -1; what <= 6; what++) {
            Due.is("look(0, 0, " + what + ")", x.look(0, 0, what), STATE);
            Due.is("look(2, 0, " + what + ")", x.look(2, 0, what), STATE);
            Due.is("look(-1, 0, " + what + ")", x.look(-1, 0, what), STATE);
            Due.is("look(0, 16, " + what + ")", x.look(0, 16, what), STATE);
            Due.is("look(0, -1, " + what + ")", x.look(0, -1, what), STATE);
        }
    }

    private static void lookOfNone() {
        Due.sentence(13, "NUMBER is answered as -2^31: there is no such ASKING, no such THING,"
            + " another what;");
        int[] sizes = {0, 1, 299, 300};
        int[] noWhats = {-1, 6, MIN, MAX};
        for (int way = 0; way <= 8; way++) {
            for (int n : sizes) {
                ShelfJudge x = Rows.served(way, 2, Rows.around(n, 3));
                int[] none = {-1, n, 300, 301, MIN, MAX};
                for (int what = 0; what <= 5; what++) {
                    for (int i : none) {
                        Due.is("look(" + i + ", 0, " + what + ") of " + n, x.look(i, 0, what), FAR_NUMBER);
                    }
                    for (int thing : NO_THINGS) {
                        Due.is("look(0, " + thing + ", " + what + ")", x.look(0, thing, what), FAR_NUMBER);
                    }
                }
                for (int what : noWhats) {
                    Due.is("look(0, 0, " + what + ")", x.look(0, 0, what), FAR_NUMBER);
                }
            }
        }
    }

    private static void lookOfAnotherKind() {
        Due.sentence(13, "KIND as -2^31 + 1: that what is not of its WAY.");
        for (int way = 0; way <= 8; way++) {
            ShelfJudge x = Rows.served(way, 8, Rows.around(300, 16));
            for (int what = 0; what <= 5; what++) {
                boolean its = what <= 1 || holds(WHATS[way], what);
                for (int thing = 0; thing <= 15; thing += 15) {
                    Due.is("way " + way + ", look(0, " + thing + ", " + what + ")",
                        x.look(0, thing, what) == FAR_KIND ? 1 : 0, its ? 0 : 1);
                    Due.is("way " + way + ", look(299, " + thing + ", " + what + ")",
                        x.look(299, thing, what) == FAR_KIND ? 1 : 0, its ? 0 : 1);
                }
            }
        }
    }

    // ---- promise 14

    private static void levelLying() {
        Due.sentence(14, "THE LATEST RUN as it stood behind ASKING i: how = 0 how many THINGS lay"
            + " there,");
        for (int way = 0; way <= 8; way++) {
            for (int k = 1; k <= 8; k++) {
                ShelfJudge x = Rows.served(way, k, Rows.around(300, 16));
                int[] askings = {0, 299, k - 1, k, k > 1 ? k - 2 : 0, 298, 0};
                for (int i : askings) {
                    Due.is("way " + way + ", k " + k + ", behind " + i, x.level(i, 0), Math.min(k, i + 1));
                }
            }
        }
    }

    private static void levelOfWays() {
        Due.sentence(14, "1 how many ROUNDS ended (MARKING), 2 THE HAND (CLOCK), 3 THE SHARE"
            + " (BALANCE), 4 THE LEVEL (GREEDY).");
        ShelfJudge x = Rows.served(2, 1, Rows.around(300, 16));
        Due.is("ROUNDS behind 0", x.level(0, 1), 0);
        Due.is("ROUNDS behind 299", x.level(299, 1), 299);
        x.serve(3, 8);
        Due.is("THE HAND behind 0", x.level(0, 2), 0);
        Due.is("THE HAND behind 7", x.level(7, 2), 0);
        Due.is("THE HAND behind 14", x.level(14, 2), 7);
        Due.is("THE HAND behind 15", x.level(15, 2), 0);
        x.serve(6, 8);
        Due.is("THE SHARE behind 15", x.level(15, 3), 0);
        Due.is("THE SHARE behind 16", x.level(16, 3), 1);
        x.serve(7, 1);
        Due.is("THE LEVEL behind 0", x.level(0, 4), 0);
        Due.is("THE LEVEL behind 299", x.level(299, 4), 299);
    }

    private static void levelWithoutRun() {
        Due.sentence(14, "STATE;");
        ShelfJudge x = Rows.of(1, 2);
        for (int how = -1; how <= 5; how++) {
            Due.is("level(0, " + how + ")", x.level(0, how), STATE);
            Due.is("level(2, " + how + ")", x.level(2, how), STATE);
            Due.is("level(-1, " + how + ")", x.level(-1, how), STATE);
        }
    }

    private static void levelOfNone() {
        Due.sentence(14, "NUMBER is answered as -2^31: there is no such ASKING, another how;");
        int[] sizes = {0, 1, 299, 300};
        int[] noHows = {-1, 5, MIN, MAX};
        for (int way = 0; way <= 8; way++) {
            for (int n : sizes) {
                ShelfJudge x = Rows.served(way, 2, Rows.around(n, 3));
                int[] none = {-1, n, 300, 301, MIN, MAX};
                for (int how = 0; how <= 4; how++) {
                    for (int i : none) {
                        Due.is("level(" + i + ", " + how + ") of " + n, x.level(i, how), FAR_NUMBER);
                    }
                }
                for (int how : noHows) {
                    Due.is("level(0, " + how + ")", x.level(0, how), FAR_NUMBER);
                }
            }
        }
    }

    private static void levelOfAnotherKind() {
        Due.sentence(14, "KIND as -2^31 + 1.");
        for (int way = 0; way <= 8; way++) {
            ShelfJudge x = Rows.served(way, 8, Rows.around(300, 16));
            for (int how = 0; how <= 4; how++) {
                boolean its = how == 0 || HOWS[way] == how;
                Due.is("way " + way + ", level(0, " + how + ")", x.level(0, how) == FAR_KIND ? 1 : 0,
                    its ? 0 : 1);
                Due.is("way " + way + ", level(299, " + how + ")", x.level(299, how) == FAR_KIND ? 1 : 0,
                    its ? 0 : 1);
            }
        }
    }

    // ---- promise 15

    private static void fewestOfEachWay() {
        Due.sentence(15, "Of the WAYS 0 to 7 the one with the fewest MISSES for THE ROW with k"
            + " PLACES, of several the least.");
        // By each of these rows one way alone has the fewest; but MARKING always chooses as RESTING
        // does, and so does GREEDY where all PRICES are the same.
        Due.is("OLDEST", Rows.of(2, 0, 2, 1, 0).fewest(2), 0);
        Due.is("OLDEST as RAREST, though its last is a MISS", Rows.of(2, 2, 0, 1, 0, 2).fewest(2), 0);
        Due.is("RESTING, MARKING and GREEDY", Rows.of(0, 1, 0, 2, 0).fewest(2), 1);
        Due.is("CLOCK", Rows.of(3, 3, 2, 5, 3, 0, 1, 0).fewest(2), 3);
        Due.is("RAREST", Rows.of(0, 1, 1, 3, 0, 2, 1).fewest(2), 4);
        Due.is("TWOFOLD", Rows.of(2, 3, 5, 2, 0, 3, 2).fewest(2), 5);
        Due.is("BALANCE", Rows.of(2, 1, 0, 0, 2, 1).fewest(2), 6);
        ShelfJudge y = Rows.of(Rows.around(13, 4));
        y.price(0, 1000);
        Due.is("GREEDY, by its PRICES", y.fewest(2), 7);
        ShelfJudge z = Rows.of(0, 1, 2, 0, 1);
        Due.is("all as many, but for AHEAD", z.fewest(2), 0);
        Due.is("OLDEST", z.serve(0, 2), 5);
        Due.is("AHEAD, which is not asked", z.serve(8, 2), 4);
        for (int k = 1; k <= 8; k++) {
            Due.is("an empty ROW, k " + k, new ShelfJudge().fewest(k), 0);
            Due.is("all as many, k " + k, Rows.full(k).fewest(k), 0);
        }
    }

    private static void fewestLeavesTheRun() {
        Due.sentence(15, "(THE LATEST RUN stays.)");
        for (int way = 0; way <= 8; way++) {
            ShelfJudge x = Rows.served(way, 2, Rows.around(30, 4));
            ShelfJudge y = Rows.served(way, 2, Rows.around(30, 4));
            for (int k = 1; k <= 8; k++) {
                x.fewest(k);
            }
            Due.is("paid, way " + way, x.paid(), y.paid());
            for (int i = 29; i >= 0; i -= 7) {
                Due.is("gone(" + i + "), way " + way, x.gone(i), y.gone(i));
                Due.is("hit(" + i + "), way " + way, x.hit(i), y.hit(i));
                for (int what = 0; what <= 5; what++) {
                    for (int thing = 0; thing < 4; thing++) {
                        Due.is("look, way " + way, x.look(i, thing, what), y.look(i, thing, what));
                    }
                }
                Due.is("level, way " + way, x.level(i, HOWS[way]), y.level(i, HOWS[way]));
                x.fewest(3);
            }
        }
        ShelfJudge z = Rows.of(1, 2);
        z.fewest(2);
        Due.is("it makes none", z.paid(), STATE);
    }

    private static void fewestRefusesPlaces() {
        Due.sentence(15, "NUMBER: k isn't 1 to 8.");
        for (int k : NO_PLACES) {
            Due.is("fewest(" + k + ")", Rows.of(1, 2).fewest(k), NUMBER);
            Due.is("fewest(" + k + ") of an empty ROW", new ShelfJudge().fewest(k), NUMBER);
        }
        Due.is("fewest(1)", Rows.of(1, 2).fewest(1), 0);
        Due.is("fewest(8)", Rows.of(1, 2).fewest(8), 0);
    }

    // ---- promise 16

    /** A run with so many HITS of n ASKINGS. */
    private static ShelfJudge withHits(int hits, int n) {
        int[] row = new int[n];
        for (int i = 0; i < n; i++) {
            row[i] = Math.min(i, n - hits - 1) % 2;
        }
        return Rows.served(0, 1, row);
    }

    private static void shareOfAll() {
        Due.sentence(16, "HITS of THE LATEST RUN in hundredths of a hundredth of all ASKINGS:");
        Due.is("0 of 1", withHits(0, 1).share(), 0);
        Due.is("1 of 2", withHits(1, 2).share(), 5000);
        Due.is("0 of 300", withHits(0, 300).share(), 0);
        Due.is("1 of 300", withHits(1, 300).share(), 33);
        Due.is("299 of 300, the most", withHits(299, 300).share(), 9966);
    }

    private static void shareByFloats() {
        Due.sentence(16, "the whole part of ((float) HITS / ASKINGS) * 10000 (floats).");
        Due.is("39 of 50: below 7800 by floats", withHits(39, 50).share(), 7799);
        Due.is("7 of 10: 7000 by floats, below it if 10000 were none", withHits(7, 10).share(), 7000);
        Due.is("1 of 25", withHits(1, 25).share(), 400);
        Due.is("2 of 3: the whole part", withHits(2, 3).share(), 6666);
        for (int n = 1; n <= 300; n += 7) {
            for (int hits = 0; hits < n; hits++) {
                float part = (float) hits / n;
                Due.is(hits + " of " + n, withHits(hits, n).share(), (int) (part * 10000f));
            }
        }
    }

    private static void shareWithoutRun() {
        Due.sentence(16, "STATE;");
        Due.is("a ROW alone", Rows.of(1, 2).share(), STATE);
        Due.is("an empty ROW", new ShelfJudge().share(), STATE);
    }

    private static void shareOfEmpty() {
        Due.sentence(16, "NUMBER: THE ROW is empty.");
        for (int way = 0; way <= 8; way++) {
            Due.is("way " + way, Rows.served(way, 8).share(), NUMBER);
        }
        ShelfJudge x = Rows.of(1, 1);
        x.cut(0);
        x.serve(0, 1);
        Due.is("an emptied ROW", x.share(), NUMBER);
    }
}
