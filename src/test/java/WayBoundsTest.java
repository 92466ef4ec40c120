/** The terms of shelves and ways, a test for each sentence, at the edges that it names. */
public final class WayBoundsTest {
    public static void main(String[] args) {
        thingsAreSixteen();
        rowIsNumberedFromNone();
        placesAreOneToEight();
        beginsWithAnEmptyShelf();
        missPaysAndComes();
        oneGoesWhenFull();
        countBeginsWithTheComing();
        restsByTheLatestAsking();
        comingIsNotTheLatestAsking();
        oldest();
        resting();
        onlyWhatLiesIsMarked();
        hitMarks();
        roundEndsWhenAllAreMarked();
        unmarkedThatRestsLongestGoes();
        whatComesIsMarked();
        clockPlaces();
        handBeginsAtNone();
        leastFreePlace();
        handGoesOnPastMarks();
        whatLiesAtTheHandGoes();
        rarest();
        Due.end();
    }

    // ---- the first term

    private static void thingsAreSixteen() {
        Due.sentence(0, "THINGS are 0 to 15,");
        for (int way = 0; way <= 8; way++) {
            ShelfJudge x = Rows.of(15, 0, 15, 0);
            Due.is("the first and the last, way " + way, x.serve(way, 2), 2);
            Due.is("15 lies there", x.look(3, 15, 0), 1);
            Due.is("0 lies there", x.look(3, 0, 0), 1);
            Due.is("14 doesn't", x.look(3, 14, 0), 0);
            Due.is("with one PLACE, way " + way, x.serve(way, 1), 4);
            Rows.goings("with one PLACE, way " + way, x, -1, 15, 0, 15);
        }
    }

    private static void rowIsNumberedFromNone() {
        Due.sentence(0, "THE ROW has ASKINGS, numbered from 0 on, at most 300, each for a THING.");
        for (int way = 0; way <= 8; way++) {
            ShelfJudge x = Rows.full(16);
            Due.is("way " + way, x.serve(way, 1), 300);
            Due.is("the first", x.hit(0), 0);
            Due.is("the last", x.hit(299), 0);
            Due.is("what went for the last", x.gone(299), 298 % 16);
            Due.is("no more", x.hit(300), -1);
        }
    }

    private static void placesAreOneToEight() {
        Due.sentence(0, "A SHELF has k PLACES (1 to 8).");
        for (int way = 0; way <= 8; way++) {
            for (int k = 1; k <= 8; k++) {
                ShelfJudge x = Rows.served(way, k, Rows.around(32, 16));
                for (int i = 0; i < 32; i++) {
                    Due.is("way " + way + ", k " + k + ": lying behind " + i, x.level(i, 0),
                        Math.min(i + 1, k));
                }
            }
        }
    }

    private static void beginsWithAnEmptyShelf() {
        Due.sentence(0, "It is served from an empty SHELF:");
        for (int way = 0; way <= 8; way++) {
            ShelfJudge x = Rows.of(3, 3, 4);
            for (int time = 0; time < 3; time++) {
                Due.is("way " + way + ", time " + time, x.serve(way, 8), 2);
                Due.is("the first is a MISS", x.hit(0), 0);
                Due.is("one lies there", x.level(0, 0), 1);
                Due.is("4 doesn't yet", x.look(0, 4, 0), 0);
            }
        }
    }

    private static void missPaysAndComes() {
        Due.sentence(0, "an ASKING for a THING that lies there is a HIT; else it is a MISS: its PRICE"
            + " is paid,");
        for (int way = 0; way <= 8; way++) {
            ShelfJudge x = Rows.of(2, 2, 5, 2, 5);
            x.price(2, 1000);
            x.price(5, 7);
            x.serve(way, 2);
            Due.is("paid, way " + way, x.paid(), 1007);
            int[] hits = {0, 1, 0, 1, 1};
            for (int i = 0; i < hits.length; i++) {
                Due.is("hit(" + i + "), way " + way, x.hit(i), hits[i]);
            }
            x.serve(way, 1);
            Due.is("paid with one PLACE, way " + way, x.paid(), 2014);
        }
    }

    private static void oneGoesWhenFull() {
        Due.sentence(0, "if k THINGS lie there one GOES first, then it lies there.");
        for (int way = 0; way <= 8; way++) {
            for (int k = 1; k <= 8; k++) {
                ShelfJudge x = Rows.served(way, k, Rows.around(k + 1, 16));
                String name = "way " + way + ", k " + k;
                for (int i = 0; i < k; i++) {
                    Due.is(name + ": nothing goes for " + i, x.gone(i), -1);
                }
                int gone = x.gone(k);
                Due.that(name + ": one goes for " + k, gone >= 0 && gone < k);
                Due.is(name + ": it lies there no more", x.look(k, gone, 0), 0);
                Due.is(name + ": it lay there ahead", x.look(k - 1, gone, 0), 1);
                Due.is(name + ": what comes lies there", x.look(k, k, 0), 1);
            }
        }
    }

    private static void countBeginsWithTheComing() {
        Due.sentence(0, "COUNT of a THING that lies there: how often it was asked for since it came"
            + " (the ASKING by which it came counts, too).");
        for (int way = 0; way <= 8; way++) {
            ShelfJudge x = Rows.served(way, 1, 6, 6, 7, 6);
            int[] six = {1, 2, 0, 1};
            int[] seven = {0, 0, 1, 0};
            for (int i = 0; i < 4; i++) {
                Due.is("6 behind " + i + ", way " + way, x.look(i, 6, 1), six[i]);
                Due.is("7 behind " + i + ", way " + way, x.look(i, 7, 1), seven[i]);
            }
            ShelfJudge y = Rows.full(1);
            y.serve(way, 8);
            Due.is("the most, way " + way, y.look(299, 0, 1), 300);
        }
    }

    private static void restsByTheLatestAsking() {
        Due.sentence(0, "A THING RESTS longer than another one if its latest ASKING is earlier.");
        ShelfJudge x = Rows.served(1, 2, 0, 1, 0, 2);
        Rows.goings("0 was asked for once more", x, -1, -1, -1, 1);
        ShelfJudge y = Rows.served(1, 2, 0, 1, 0, 1, 2);
        Rows.goings("and 1 behind it", y, -1, -1, -1, -1, 0);
    }

    private static void comingIsNotTheLatestAsking() {
        Due.sentence(0, "A THING's coming is the ASKING by which it came.");
        ShelfJudge x = Rows.served(0, 2, 0, 1, 0, 2);
        Rows.goings("a HIT is no coming", x, -1, -1, -1, 0);
        ShelfJudge y = Rows.served(0, 2, 0, 1, 2, 0, 3);
        Rows.goings("its latest coming counts", y, -1, -1, 0, 1, 2);
    }

    // ---- OLDEST and RESTING

    private static void oldest() {
        Due.sentence(0, "0 OLDEST: that which came first.");
        for (int k = 1; k <= 8; k++) {
            ShelfJudge x = Rows.served(0, k, Rows.join(Rows.around(k, k), Rows.around(k + 1, k + 1)));
            Due.is("all were HIT in their order, k " + k, x.gone(2 * k), 0);
            ShelfJudge y = Rows.served(0, k, Rows.join(Rows.around(k, k), 0, 15, 14));
            Due.is("the first was HIT, k " + k, y.gone(k + 1), 0);
            Due.is("the next one, k " + k, y.gone(k + 2), k == 1 ? 15 : 1);
        }
    }

    private static void resting() {
        Due.sentence(0, "1 RESTING: that which rests longest.");
        for (int k = 1; k <= 8; k++) {
            ShelfJudge y = Rows.served(1, k, Rows.join(Rows.around(k, k), 0, 15, 14));
            Due.is("the first was HIT, k " + k, y.gone(k + 1), k == 1 ? 0 : 1);
            Due.is("the next one, k " + k, y.gone(k + 2), k == 1 ? 15 : k == 2 ? 0 : 2);
        }
    }

    // ---- MARKING

    private static void onlyWhatLiesIsMarked() {
        Due.sentence(0, "2 MARKING: THINGS that lie there may be MARKED.");
        for (int k = 1; k <= 8; k++) {
            ShelfJudge x = Rows.served(2, k, Rows.join(Rows.around(10, 10), 0, 0, 9));
            for (int i = 0; i < 13; i++) {
                for (int thing = 0; thing < 10; thing++) {
                    Due.that("k " + k + ": " + thing + " behind " + i,
                        x.look(i, thing, 2) <= x.look(i, thing, 0));
                }
            }
        }
    }

    private static void hitMarks() {
        Due.sentence(0, "A HIT MARKS its THING.");
        // By 2 a ROUND ends: 0 goes, 1 is MARKED no more until it is HIT.
        ShelfJudge x = Rows.served(2, 2, 0, 1, 2, 1, 3);
        Due.is("MARKING: behind the ROUND's end", x.look(2, 1, 2), 0);
        Due.is("MARKING: behind the HIT", x.look(3, 1, 2), 1);
        Rows.goings("MARKING: all are MARKED again", x, -1, -1, 0, -1, 2);
        Due.is("MARKING: a second ROUND", x.level(4, 1), 2);
        ShelfJudge y = Rows.served(3, 2, 0, 1, 1, 1);
        Due.is("CLOCK: ahead of the HIT", y.look(1, 1, 2), 0);
        Due.is("CLOCK: behind the HIT", y.look(2, 1, 2), 1);
        Due.is("CLOCK: behind the next HIT", y.look(3, 1, 2), 1);
        Due.is("CLOCK: the other one", y.look(3, 0, 2), 0);
    }

    private static void roundEndsWhenAllAreMarked() {
        Due.sentence(0, "When one must go and all are MARKED, none is MARKED any more (a ROUND ends);");
        for (int k = 1; k <= 8; k++) {
            ShelfJudge x = Rows.served(2, k, Rows.around(48, 16));
            for (int i = 0; i < 48; i++) {
                Due.is("k " + k + ": ROUNDS behind " + i, x.level(i, 1), i / k);
            }
            for (int thing = 0; thing < k; thing++) {
                Due.is("k " + k + ": all are MARKED", x.look(k - 1, thing, 2), 1);
                Due.is("k " + k + ": none but what came is", x.look(k, thing, 2), 0);
            }
            ShelfJudge y = Rows.served(2, k, Rows.join(Rows.around(k, k), Rows.around(k, k)));
            Due.is("k " + k + ": none must go", y.level(2 * k - 1, 1), 0);
        }
    }

    private static void unmarkedThatRestsLongestGoes() {
        Due.sentence(0, "of those that aren't MARKED the one that rests longest goes;");
        // By 3 a ROUND ends and 0 goes; 1, which rests longest, is MARKED by a HIT: 2 goes.
        ShelfJudge x = Rows.served(2, 3, 0, 1, 2, 3, 1, 4, 5);
        Rows.goings("one is MARKED", x, -1, -1, -1, 0, -1, 2, 3);
        Due.is("no ROUND ended for 4", x.level(5, 1), 1);
        Due.is("one ended for 5", x.level(6, 1), 2);
        // The order of HITS, not that of comings: 0 comes first and rests the least.
        ShelfJudge y = Rows.served(2, 2, 0, 1, 0, 2);
        Rows.goings("all were MARKED", y, -1, -1, -1, 1);
    }

    private static void whatComesIsMarked() {
        Due.sentence(0, "the one that comes is MARKED.");
        for (int k = 1; k <= 8; k++) {
            ShelfJudge x = Rows.served(2, k, Rows.around(16, 16));
            for (int i = 0; i < 16; i++) {
                Due.is("k " + k + ": " + i + " comes", x.look(i, i, 2), 1);
            }
        }
    }

    // ---- CLOCK

    private static void clockPlaces() {
        Due.sentence(0, "3 CLOCK: PLACES 0 to k - 1;");
        for (int k = 1; k <= 8; k++) {
            ShelfJudge x = Rows.served(3, k, Rows.around(32, 16));
            for (int i = 0; i < 32; i++) {
                Due.is("k " + k + ": PLACE of what comes by " + i, x.look(i, i % 16, 3), i % k);
            }
            Due.is("k " + k + ": the last PLACE", x.look(k - 1, k - 1, 3), k - 1);
            Due.is("k " + k + ": no PLACE", x.look(k - 1, k, 3), -1);
        }
    }

    private static void handBeginsAtNone() {
        Due.sentence(0, "THE HAND is at one, at 0 at first.");
        for (int k = 1; k <= 8; k++) {
            ShelfJudge x = Rows.served(3, k, Rows.join(Rows.around(k, k), Rows.around(k, k)));
            for (int i = 0; i < 2 * k; i++) {
                Due.is("k " + k + ": behind " + i, x.level(i, 2), 0);
            }
        }
    }

    private static void leastFreePlace() {
        Due.sentence(0, "What comes while PLACES are free comes to the least free one.");
        ShelfJudge x = Rows.served(3, 8, 15, 15, 3, 15, 9, 3, 0);
        int[] things = {15, 3, 9, 0};
        for (int place = 0; place < things.length; place++) {
            Due.is("PLACE of " + things[place], x.look(6, things[place], 3), place);
        }
        Due.is("not yet", x.look(5, 0, 3), -1);
    }

    private static void handGoesOnPastMarks() {
        Due.sentence(0, "When one must go: as long as that at THE HAND is MARKED, it is MARKED no"
            + " more, and THE HAND goes on by one (from k - 1 to 0);");
        for (int k = 1; k <= 8; k++) {
            for (int marked = 0; marked <= k; marked++) {
                int[] row = Rows.join(Rows.around(k, k), Rows.around(marked, k));
                ShelfJudge x = Rows.served(3, k, Rows.join(row, 15));
                int last = row.length;
                String name = "k " + k + ", " + marked + " MARKED: ";
                Due.is(name + "what went", x.gone(last), marked % k);
                Due.is(name + "THE HAND", x.level(last, 2), (marked + 1) % k);
                for (int thing = 0; thing < k; thing++) {
                    Due.is(name + thing + " ahead of it", x.look(last - 1, thing, 2), thing < marked ? 1 : 0);
                    Due.is(name + thing + " behind it", x.look(last, thing, 2), 0);
                }
            }
        }
        // THE HAND is at 2 and what lies there MARKED: it goes on to 0.
        ShelfJudge y = Rows.served(3, 3, 0, 1, 2, 3, 4, 2, 5);
        Rows.goings("round the end", y, -1, -1, -1, 0, 1, -1, 3);
        Due.is("round the end: THE HAND", y.level(6, 2), 1);
        Due.is("round the end: PLACE of 5", y.look(6, 5, 3), 0);
        // What lies ahead of THE HAND keeps its mark.
        ShelfJudge z = Rows.served(3, 3, 0, 1, 2, 2, 3);
        Rows.goings("2 is not reached", z, -1, -1, -1, -1, 0);
        Due.is("2 is not reached", z.look(4, 2, 2), 1);
    }

    private static void whatLiesAtTheHandGoes() {
        Due.sentence(0, "what lies at THE HAND goes, what comes lies in its PLACE, not MARKED, and"
            + " THE HAND goes on by one.");
        for (int k = 1; k <= 8; k++) {
            ShelfJudge x = Rows.served(3, k, Rows.around(32, 16));
            for (int i = k; i < 32; i++) {
                String name = "k " + k + ", " + i + ": ";
                Due.is(name + "what went", x.gone(i), (i - k) % 16);
                Due.is(name + "PLACE", x.look(i, i % 16, 3), i % k);
                Due.is(name + "not MARKED", x.look(i, i % 16, 2), 0);
                Due.is(name + "THE HAND", x.level(i, 2), (i - k + 1) % k);
            }
        }
        // 0 was MARKED when it went for the first time round: it comes back without a mark.
        ShelfJudge y = Rows.served(3, 1, 0, 0, 1, 0);
        Due.is("MARKED ahead", y.look(1, 0, 2), 1);
        Due.is("not MARKED when it is back", y.look(3, 0, 2), 0);
    }

    // ---- RAREST

    private static void rarest() {
        Due.sentence(0, "4 RAREST: that with the least COUNT, of several the one that rests longest.");
        Rows.goings("the least COUNT", Rows.served(4, 2, 0, 0, 1, 2), -1, -1, -1, 1);
        Rows.goings("though it rests least", Rows.served(4, 2, 1, 1, 1, 0, 0, 2), -1, -1, -1, -1, -1, 0);
        Rows.goings("of several, by the latest ASKING", Rows.served(4, 2, 0, 1, 1, 0, 2), -1, -1, -1, -1, 1);
        Rows.goings("of several, the other one", Rows.served(4, 2, 0, 1, 0, 1, 2), -1, -1, -1, -1, 0);
        Rows.goings("a COUNT begins anew", Rows.served(4, 2, 0, 1, 1, 2, 0, 3), -1, -1, -1, 0, 2, 0);
        // A COUNT of 298 against one of 1 whose latest ASKING is the later one.
        int[] row = Rows.around(300, 1);
        row[298] = 1;
        row[299] = 2;
        Due.is("the most COUNT that may be", Rows.served(4, 2, row).gone(299), 1);
    }
}
