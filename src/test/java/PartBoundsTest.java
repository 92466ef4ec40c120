/** TWOFOLD, BALANCE, GREEDY and AHEAD, a test for each sentence, at the edges that it names. */
public final class PartBoundsTest {
    private static final int ONCE = 1;
    private static final int TWICE = 2;
    private static final int FIRST_BOOK = 3;
    private static final int SECOND_BOOK = 4;

    public static void main(String[] args) {
        twofoldPartsOfWhatLies();
        bookHasAtMostPlaces();
        hitBringsToTwice();
        fromTheBookToTwice();
        onceMayKeepAQuarter();
        firstOfFullBookIsLeftOut();
        twiceByRest();
        whatComesIsInOnce();
        balanceHasTwoBooks();
        shareIsPlacesAtMost();
        shareIsNoneAtLeast();
        shareFallsByOne();
        fromEitherBookToTwice();
        onceMayKeepTheShare();
        emptyTwiceKeepsNothing();
        emptyOnceGivesNothing();
        levelAndCredit();
        leastCreditGoes();
        levelBecomesTheCredit();
        largestCredits();
        latestNextGoes();
        neverIsLaterThanTheLast();
        ofSeveralTheLeastThing();
        Due.end();
    }

    /** Comes and is HIT, for each of the things 0 to n - 1. */
    private static int[] pairs(int n) {
        int[] row = new int[2 * n];
        for (int i = 0; i < row.length; i++) {
            row[i] = i / 2;
        }
        return row;
    }

    private static void parts(String what, ShelfJudge x, int i, int... want) {
        for (int thing = 0; thing < want.length; thing++) {
            Due.is(what + ": part of " + thing + " behind " + i, x.look(i, thing, 4), want[thing]);
        }
    }

    // ---- TWOFOLD

    private static void twofoldPartsOfWhatLies() {
        Due.sentence(0, "5 TWOFOLD: what lies there is in the part ONCE or in the part TWICE;");
        for (int k = 1; k <= 8; k++) {
            ShelfJudge x = Rows.served(5, k, 0, 1, 2, 0, 3, 4, 1, 5, 6, 6, 7, 8, 9, 1);
            for (int i = 0; i < 14; i++) {
                for (int thing = 0; thing < 10; thing++) {
                    int part = x.look(i, thing, 4);
                    Due.is("k " + k + ": " + thing + " behind " + i, part == ONCE || part == TWICE ? 1 : 0,
                        x.look(i, thing, 0));
                }
            }
        }
    }

    private static void bookHasAtMostPlaces() {
        Due.sentence(0, "THE BOOK has at most k THINGS that went from ONCE, the one that went there"
            + " longest ago first.");
        booksOfUnlikeThings(5);
        // 0 goes to THE BOOK, from there to TWICE and then nowhere: by its return it is in ONCE.
        ShelfJudge x = Rows.served(5, 1, 0, 1, 0, 2, 0);
        parts("what went from TWICE is in none", x, 3, 0, FIRST_BOOK, ONCE);
        parts("what went from TWICE comes to ONCE", x, 4, ONCE, 0, FIRST_BOOK);
    }

    /** Of things that come once each the latest k lie in ONCE, and the k ahead of them are in a BOOK. */
    private static void booksOfUnlikeThings(int way) {
        for (int k = 1; k <= 8; k++) {
            ShelfJudge x = Rows.served(way, k, Rows.around(16, 16));
            for (int i = 0; i < 16; i++) {
                for (int thing = 0; thing < 16; thing++) {
                    int ago = i - thing;
                    int want = ago < 0 || ago >= 2 * k ? 0 : ago < k ? ONCE : FIRST_BOOK;
                    Due.is("way " + way + ", k " + k + ": part of " + thing + " behind " + i,
                        x.look(i, thing, 4), want);
                }
            }
        }
    }

    private static void hitBringsToTwice() {
        Due.sentence(0, "A HIT: the THING is in TWICE from now on.");
        for (int way = 5; way <= 6; way++) {
            ShelfJudge x = Rows.served(way, 8, 7, 7, 7, 15, 7, 15);
            int[] seven = {ONCE, TWICE, TWICE, TWICE, TWICE, TWICE};
            int[] fifteen = {0, 0, 0, ONCE, ONCE, TWICE};
            for (int i = 0; i < 6; i++) {
                Due.is("way " + way + ": 7 behind " + i, x.look(i, 7, 4), seven[i]);
                Due.is("way " + way + ": 15 behind " + i, x.look(i, 15, 4), fifteen[i]);
            }
        }
    }

    private static void fromTheBookToTwice() {
        Due.sentence(0, "On a MISS first: if the THING is in THE BOOK, it is in it no more, and will"
            + " be in TWICE.");
        for (int k = 1; k <= 8; k++) {
            for (int back = 0; back < k; back++) {
                ShelfJudge x = Rows.served(5, k, Rows.join(Rows.around(2 * k, 16), back));
                String name = "k " + k + ": " + back + " is back";
                Due.is(name + ", what went", x.gone(2 * k), k);
                for (int thing = 0; thing < 2 * k; thing++) {
                    int want = thing == back ? TWICE : thing <= k ? FIRST_BOOK : ONCE;
                    // THE BOOK had k, one of them came back: none of them is left out.
                    Due.is(name + ", part of " + thing, x.look(2 * k, thing, 4), want);
                }
            }
        }
    }

    private static void onceMayKeepAQuarter() {
        Due.sentence(0, "If the SHELF is full: if ONCE has more than k / 4 (without the rest) THINGS,"
            + " or TWICE is empty, that of ONCE which came there first goes,");
        int[] quarter = {0, 0, 0, 0, 1, 1, 1, 1, 2};
        for (int k = 1; k <= 8; k++) {
            int[] come = Rows.around(k, k);
            for (int once = 0; once <= k; once++) {
                int hits = k - once;
                ShelfJudge x = Rows.served(5, k,
                    Rows.join(Rows.join(come, Rows.around(hits, k)), 15));
                int last = k + hits;
                boolean goesFromOnce = once > quarter[k];
                String name = "k " + k + ", " + once + " in ONCE";
                int want = goesFromOnce ? hits : 0;
                Due.is(name + ": what went", x.gone(last), want);
                Due.is(name + ": where it is", x.look(last, want, 4), goesFromOnce ? FIRST_BOOK : 0);
                Due.is(name + ": what came", x.look(last, 15, 4), ONCE);
            }
        }
        Rows.goings("that which came there first", Rows.served(5, 3, 2, 0, 1, 2, 3), -1, -1,
            -1, -1, 0);
    }

    private static void firstOfFullBookIsLeftOut() {
        Due.sentence(0, "and comes to the end of THE BOOK (if that has k, its first one is left out);");
        for (int k = 1; k <= 7; k++) {
            ShelfJudge x = Rows.served(5, k, Rows.join(Rows.around(2 * k + 1, 16), 0));
            Due.is("k " + k + ": 0 was in it", x.look(2 * k - 1, 0, 4), FIRST_BOOK);
            Due.is("k " + k + ": 0 is left out", x.look(2 * k, 0, 4), 0);
            Due.is("k " + k + ": k is in it", x.look(2 * k, k, 4), FIRST_BOOK);
            Due.is("k " + k + ": 0 comes to ONCE", x.look(2 * k + 1, 0, 4), ONCE);
        }
        // With 8 PLACES all 16 THINGS lie there or are in THE BOOK: none is ever left out.
        ShelfJudge y = Rows.served(5, 8, Rows.join(Rows.around(16, 16), 7));
        for (int thing = 0; thing < 16; thing++) {
            Due.that("k 8: " + thing + " is somewhere", y.look(16, thing, 4) != 0);
        }
    }

    private static void twiceByRest() {
        Due.sentence(0, "else that of TWICE goes which rests longest.");
        ShelfJudge x = Rows.served(5, 2, 0, 1, 0, 1, 0, 2);
        Rows.goings("0 came to TWICE first, 1 rests longer", x, -1, -1, -1, -1, -1, 1);
        parts("it comes to no BOOK", x, 5, TWICE, 0, ONCE);
    }

    private static void whatComesIsInOnce() {
        Due.sentence(0, "What comes is in ONCE, if it will not be in TWICE.");
        for (int way = 5; way <= 6; way++) {
            for (int k = 1; k <= 8; k++) {
                ShelfJudge x = Rows.served(way, k, pairs(16));
                for (int thing = 0; thing < 16; thing++) {
                    Due.is("way " + way + ", k " + k + ": " + thing, x.look(2 * thing, thing, 4), ONCE);
                }
            }
        }
    }

    // ---- BALANCE

    private static void balanceHasTwoBooks() {
        Due.sentence(0, "6 BALANCE: as TWOFOLD, but with two BOOKS of at most k each, for what went"
            + " from ONCE and from TWICE, and THE SHARE (0 at first).");
        booksOfUnlikeThings(6);
        for (int k = 1; k <= 8; k++) {
            ShelfJudge x = Rows.served(6, k, pairs(16));
            for (int last = 0; last < 16; last++) {
                int i = 2 * last + 1;
                Due.is("k " + k + ": THE SHARE behind " + i, x.level(i, 3), 0);
                for (int thing = 0; thing < 16; thing++) {
                    int ago = last - thing;
                    int want = ago < 0 || ago >= 2 * k ? 0 : ago < k ? TWICE : SECOND_BOOK;
                    Due.is("k " + k + ": part of " + thing + " behind " + i, x.look(i, thing, 4), want);
                }
            }
        }
    }

    private static void shareIsPlacesAtMost() {
        Due.sentence(0, "On a MISS first: if the THING is in the first BOOK, THE SHARE is one more (k"
            + " at most);");
        for (int k = 1; k <= 8; k++) {
            // 0 to k - 1 are in the first BOOK, and k comes there when the first of them is back.
            ShelfJudge x = Rows.served(6, k,
                Rows.join(Rows.around(2 * k, 16), Rows.around(k + 1, 16)));
            for (int i = 0; i < 3 * k + 1; i++) {
                int back = i - (2 * k - 1);
                if (back > 0) {
                    Due.is("k " + k + ": it is in the first BOOK", x.look(i - 1, x.asked(i), 4), FIRST_BOOK);
                }
                Due.is("k " + k + ": THE SHARE behind " + i, x.level(i, 3), Math.max(0, Math.min(k, back)));
            }
        }
    }

    private static void shareIsNoneAtLeast() {
        Due.sentence(0, "if in the second, one less (0 at least);");
        for (int k = 1; k <= 8; k++) {
            ShelfJudge x = Rows.served(6, k, Rows.join(pairs(k + 1), 0));
            int last = 2 * k + 2;
            Due.is("k " + k + ": it is in the second BOOK", x.look(last - 1, 0, 4), SECOND_BOOK);
            Due.is("k " + k + ": THE SHARE stays", x.level(last, 3), 0);
        }
        ShelfJudge y = Rows.served(6, 1, 0, 1, 0, 1, 0, 1);
        int[] share = {0, 0, 1, 1, 0, 0};
        for (int i = 0; i < share.length; i++) {
            Due.is("up and down: THE SHARE behind " + i, y.level(i, 3), share[i]);
        }
        ShelfJudge z = Rows.served(6, 2, 0, 1, 2, 3, 0, 1, 0, 1);
        int[] byOne = {0, 0, 0, 0, 1, 2, 1, 0};
        for (int i = 0; i < byOne.length; i++) {
            Due.is("by one: THE SHARE behind " + i, z.level(i, 3), byOne[i]);
        }
    }

    /** From k down to 0: as long as there is one in the second BOOK it is asked for next. */
    private static void shareFallsByOne() {
        Due.sentence(0, "if in the second, one less (0 at least);");
        for (int k = 1; k <= 8; k++) {
            int[] row = Rows.join(Rows.around(2 * k, 16), Rows.around(k + 1, 16));
            for (int share = k; share >= 0; share--) {
                ShelfJudge x = Rows.served(6, k, row);
                Due.is("k " + k + ": THE SHARE", x.level(row.length - 1, 3), share);
                row = Rows.join(row, firstInPart(x, row.length - 1, SECOND_BOOK));
            }
            Due.is("k " + k + ": it stays at 0", Rows.served(6, k, row).level(row.length - 1, 3), 0);
        }
    }

    private static int firstInPart(ShelfJudge x, int i, int part) {
        int thing = 0;
        while (thing < 15 && x.look(i, thing, 4) != part) {
            thing++;
        }
        Due.is("one is in that part", x.look(i, thing, 4), part);
        return thing;
    }

    private static void fromEitherBookToTwice() {
        Due.sentence(0, "in both cases it is in no BOOK then and will be in TWICE.");
        for (int k = 1; k <= 8; k++) {
            ShelfJudge x = Rows.served(6, k, Rows.join(Rows.around(2 * k, 16), 0));
            Due.is("k " + k + ": from the first", x.look(2 * k, 0, 4), TWICE);
            Due.is("k " + k + ": none is left out", x.look(2 * k, k == 1 ? 1 : k - 1, 4), FIRST_BOOK);
            int things = Math.min(2 * k, 15);
            int back = things - k - 1;
            ShelfJudge y = Rows.served(6, k, Rows.join(pairs(things), back));
            Due.is("k " + k + ": it was in the second", y.look(2 * things - 1, back, 4), SECOND_BOOK);
            Due.is("k " + k + ": from the second", y.look(2 * things, back, 4), TWICE);
            Due.is("k " + k + ": what went for it", y.look(2 * things, things - k, 4), SECOND_BOOK);
        }
    }

    private static void onceMayKeepTheShare() {
        Due.sentence(0, "If the SHELF is full: if ONCE has more THINGS than THE SHARE, or TWICE is"
            + " empty, that of ONCE goes which came there first (to the end of the first BOOK, as"
            + " above), else that of TWICE which rests longest (to the end of the second BOOK).");
        // THE SHARE is 1 by the second 0. ONCE has 2 when 5 comes, 1 when 6 comes, 2 when 7 comes.
        ShelfJudge x = Rows.served(6, 4, 0, 1, 2, 3, 4, 0, 2, 5, 4, 6, 7);
        Rows.goings("around THE SHARE", x, -1, -1, -1, -1, 0, 1, -1, 3, -1, 0, 5);
        Due.is("THE SHARE", x.level(10, 3), 1);
        parts("ahead of 6", x, 8, TWICE, FIRST_BOOK, TWICE, FIRST_BOOK, TWICE, ONCE);
        parts("at the end", x, 10, SECOND_BOOK, FIRST_BOOK, TWICE, FIRST_BOOK, TWICE, FIRST_BOOK, ONCE, ONCE);
        // THE SHARE is 0: one in ONCE is more than that, though TWICE has all others.
        for (int k = 2; k <= 8; k++) {
            int[] row = Rows.join(Rows.around(k, k), Rows.around(k - 1, k));
            ShelfJudge y = Rows.served(6, k, Rows.join(row, 15));
            Due.is("k " + k + ": the only one of ONCE", y.gone(2 * k - 1), k - 1);
        }
        // TWICE by rest: 0 came there first, 1 rests longer.
        ShelfJudge z = Rows.served(6, 2, 0, 1, 0, 1, 0, 2);
        Due.is("that of TWICE", z.gone(5), 1);
        parts("that of TWICE", z, 5, TWICE, SECOND_BOOK, ONCE);
    }

    private static void emptyTwiceKeepsNothing() {
        Due.sentence(0, "or TWICE is empty, that of ONCE goes which came there first (to the end of"
            + " the first BOOK, as above),");
        // THE SHARE is 1 by the second 0, and ONCE has no more than that; but TWICE is empty.
        ShelfJudge x = Rows.served(6, 1, 0, 1, 0);
        Rows.goings("k 1", x, -1, 0, 1);
        parts("k 1", x, 2, TWICE, FIRST_BOOK);
    }

    private static void emptyOnceGivesNothing() {
        Due.sentence(0, "(If ONCE is empty it is that of TWICE.)");
        for (int k = 1; k <= 8; k++) {
            int[] row = Rows.join(Rows.around(k, k), Rows.around(k, k));
            ShelfJudge x = Rows.served(6, k, Rows.join(row, 15));
            Due.is("k " + k + ": THE SHARE", x.level(2 * k, 3), 0);
            Due.is("k " + k + ": what went", x.gone(2 * k), 0);
            Due.is("k " + k + ": it is in the second BOOK", x.look(2 * k, 0, 4), SECOND_BOOK);
        }
        // The same with THE SHARE at k.
        ShelfJudge y = Rows.served(6, 1, 0, 1, 0, 2);
        Due.is("THE SHARE is 1", y.level(3, 3), 1);
        Due.is("what went", y.gone(3), 0);
    }

    // ---- GREEDY

    private static ShelfJudge greedy(int k, int[] prices, int... row) {
        ShelfJudge x = Rows.of(row);
        for (int thing = 0; thing < prices.length; thing++) {
            x.price(thing, prices[thing]);
        }
        x.serve(7, k);
        return x;
    }

    private static void levelAndCredit() {
        Due.sentence(0, "7 GREEDY: THE LEVEL is 0 at first; a THING that comes or is HIT has as its"
            + " CREDIT THE LEVEL and its PRICE.");
        ShelfJudge x = greedy(2, new int[] {1000, 1, 3}, 0, 0, 1, 1, 2, 0, 2);
        int[] level = {0, 0, 0, 0, 1, 1, 1};
        int[] ofNought = {1000, 1000, 1000, 1000, 1000, 1001, 1001};
        int[] ofOne = {0, 0, 1, 1, 0, 0, 0};
        int[] ofTwo = {0, 0, 0, 0, 4, 4, 4};
        for (int i = 0; i < level.length; i++) {
            Due.is("THE LEVEL behind " + i, x.level(i, 4), level[i]);
            Due.is("CREDIT of 0 behind " + i, x.look(i, 0, 5), ofNought[i]);
            Due.is("CREDIT of 1 behind " + i, x.look(i, 1, 5), ofOne[i]);
            Due.is("CREDIT of 2 behind " + i, x.look(i, 2, 5), ofTwo[i]);
        }
    }

    private static void leastCreditGoes() {
        Due.sentence(0, "That with the least CREDIT goes, of several the one that rests longest;");
        Due.is("one less, and it rests least", greedy(2, new int[] {3, 2, 1}, 0, 1, 2).gone(2), 1);
        Due.is("one less, and it rests longest", greedy(2, new int[] {2, 3, 1}, 0, 1, 2).gone(2), 0);
        Due.is("of several", greedy(2, new int[] {2, 2, 1}, 0, 1, 2).gone(2), 0);
        Due.is("of several, the first was HIT", greedy(2, new int[] {2, 2, 1}, 0, 1, 0, 2).gone(3), 1);
        Due.is("of several, not the least THING", greedy(2, new int[] {2, 2, 1}, 1, 0, 2).gone(2), 1);
    }

    private static void levelBecomesTheCredit() {
        Due.sentence(0, "THE LEVEL becomes its CREDIT.");
        ShelfJudge x = greedy(1, new int[] {1000, 1}, 0, 1, 0, 1, 1);
        int[] level = {0, 1000, 1001, 2001, 2001};
        for (int i = 0; i < level.length; i++) {
            Due.is("THE LEVEL behind " + i, x.level(i, 4), level[i]);
        }
        x.serve(7, 1);
        Due.is("it begins anew", x.level(0, 4), 0);
    }

    private static void largestCredits() {
        Due.sentence(0, "That with the least CREDIT goes, of several the one that rests longest; THE"
            + " LEVEL becomes its CREDIT.");
        ShelfJudge x = greedy(1, new int[] {1000, 1000}, Rows.around(300, 2));
        Due.is("the highest LEVEL", x.level(299, 4), 299000);
        Due.is("the most CREDIT", x.look(299, 1, 5), 300000);
        Due.is("paid", x.paid(), 300000);
        // Behind ASKING i THE LEVEL is 1000 times half of i, so that 4 and 5 come at the same one.
        int[] row = Rows.join(Rows.around(296, 3), 4, 5, 6, 6);
        ShelfJudge y = greedy(2, new int[] {1000, 1000, 1000, 1, 1000, 999}, row);
        Due.is("CREDIT of 4", y.look(297, 4, 5), 149000);
        Due.is("CREDIT of 5", y.look(297, 5, 5), 148999);
        Due.is("one less, and it rests least", y.gone(298), 5);
        y = greedy(2, new int[] {1000, 1000, 1000, 1, 1000, 1000}, row);
        Due.is("as much, and it rests least", y.gone(298), 4);
    }

    // ---- AHEAD

    private static void latestNextGoes() {
        Due.sentence(0, "8 AHEAD: that which is asked for next at the latest ASKING behind this one");
        Rows.goings("by one ASKING", Rows.served(8, 2, 0, 1, 2, 0, 1), -1, -1, 1, -1, 0);
        Rows.goings("the other one", Rows.served(8, 2, 0, 1, 2, 1, 0), -1, -1, 0, -1, 1);
        // Earlier ASKINGS and later ones than the next don't count.
        Rows.goings("the next alone", Rows.served(8, 2, 0, 1, 0, 0, 2, 0, 1, 0), -1, -1, -1,
            -1, 1, -1, 2, -1);
    }

    private static void neverIsLaterThanTheLast() {
        Due.sentence(0, "(one that is not asked for any more later than all others),");
        int[] row = Rows.around(300, 1);
        row[0] = 3;
        row[1] = 5;
        row[299] = 3;
        ShelfJudge x = Rows.served(8, 2, row);
        Due.is("3 is asked for at 299, 5 never", x.gone(2), 5);
        Due.is("3 lies there", x.hit(299), 1);
        row[299] = 5;
        Due.is("5 is asked for at 299, 3 never", Rows.served(8, 2, row).gone(2), 3);
    }

    private static void ofSeveralTheLeastThing() {
        Due.sentence(0, "of several the least THING.");
        Due.is("0 and 15", Rows.served(8, 2, 15, 0, 7).gone(2), 0);
        Due.is("15 and 0", Rows.served(8, 2, 0, 15, 7).gone(2), 0);
        Due.is("14 and 15", Rows.served(8, 2, 15, 14, 7).gone(2), 14);
        for (int k = 1; k <= 8; k++) {
            int[] row = new int[k + 1];
            for (int i = 0; i < k; i++) {
                row[i] = 15 - i;
            }
            Due.is("k " + k, Rows.served(8, k, row).gone(k), 16 - k);
        }
    }
}
