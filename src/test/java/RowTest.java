/** Promises 1 to 8: a new object, things and askings. */
public final class RowTest {
    public static void main(String[] args) {
        newObject();
        price();
        ask();
        draw();
        change();
        cut();
        asked();
        many();
        forgetting();
        Due.end();
    }

    private static void newObject() {
        ShelfJudge x = new ShelfJudge();
        Due.is("1: askings", x.many(0), 0);
        Due.is("1: unlike", x.many(1), 0);
        Due.is("1: told", x.many(2), 0);
        Due.is("1: prices", x.many(3), 0);
        Due.is("1: paid", x.paid(), ShelfJudge.STATE);
        Due.is("1: hit", x.hit(0), ShelfJudge.STATE);
        Due.is("1: gone", x.gone(0), -1);
        Due.is("1: copy", x.copy(), ShelfJudge.STATE);
        Due.is("1: unclaim", x.unclaim(), 0);
        x.ask(0, 1, 2, 3, 4);
        x.ask(5, 6, 7, 8, 9);
        x.ask(10, 11, 12, 13, 14);
        Due.is("1: ask 15", x.ask(15, -1, 0, 0, 0), 16);
        Due.is("1: each price is 1", x.many(3), 16);
    }

    private static void price() {
        ShelfJudge x = new ShelfJudge();
        x.ask(0, 15, 15, -1, -1);
        Due.is("2: price(0, 1)", x.price(0, 1), 1);
        Due.is("2: price(15, 1000)", x.price(15, 1000), 1);
        Due.is("2: sum", x.many(3), 2001);
        Due.is("2: price(-1, 1)", x.price(-1, 1), ShelfJudge.NUMBER);
        Due.is("2: price(16, 1)", x.price(16, 1), ShelfJudge.NUMBER);
        Due.is("2: price(15, 0)", x.price(15, 0), ShelfJudge.NUMBER);
        Due.is("2: price(15, 1001)", x.price(15, 1001), ShelfJudge.NUMBER);
        Due.is("2: price(15, min)", x.price(15, Integer.MIN_VALUE), ShelfJudge.NUMBER);
        Due.is("2: price(min, 5)", x.price(Integer.MIN_VALUE, 5), ShelfJudge.NUMBER);
        Due.is("2: price(max, 5)", x.price(Integer.MAX_VALUE, 5), ShelfJudge.NUMBER);
        Due.is("2: sum stays", x.many(3), 2001);
    }

    private static void ask() {
        ShelfJudge x = new ShelfJudge();
        Due.is("3: five", x.ask(3, 0, 15, 3, 7), 5);
        Due.is("3: up to -1", x.ask(4, -1, 5, 6, 7), 6);
        Due.is("3: none", x.ask(-1, 5, 6, 7, 8), 6);
        Due.is("3: wrong behind -1", x.ask(-1, 16, -2, 99, -1), 6);
        Due.is("3: first is wrong", x.ask(16, 0, 0, 0, 0), ShelfJudge.NUMBER);
        Due.is("3: last is wrong", x.ask(0, 0, 0, 0, 16), ShelfJudge.NUMBER);
        Due.is("3: below -1", x.ask(0, -2, 0, 0, 0), ShelfJudge.NUMBER);
        Due.is("3: far below", x.ask(Integer.MIN_VALUE, 0, 0, 0, 0), ShelfJudge.NUMBER);
        int[] want = {3, 0, 15, 3, 7, 4, -1};
        for (int i = 0; i < want.length; i++) {
            Due.is("3: asked(" + i + ")", x.asked(i), want[i]);
        }
        x.draw(292, 3, 1);
        Due.is("3: three are too many", x.ask(1, 1, 1, -1, 1), ShelfJudge.FULL);
        Due.is("3: wrong before full", x.ask(1, 1, 1, 16, 1), ShelfJudge.NUMBER);
        Due.is("3: nothing came", x.many(0), 298);
        Due.is("3: two come", x.ask(1, 2, -1, 1, 1), 300);
        Due.is("3: one is too many", x.ask(1, -1, 1, 1, 1), ShelfJudge.FULL);
        Due.is("3: none into a full row", x.ask(-1, 1, 1, 1, 1), 300);
        Due.is("3: the last one", x.asked(299), 2);
    }

    private static void draw() {
        ShelfJudge x = new ShelfJudge();
        Due.is("4: draw(40, 16, -77)", x.draw(40, 16, -77), 40);
        long state = -77;
        for (int i = 0; i < 40; i++) {
            state = (1103515245L * state + 12345) & 0xffffffffL;
            Due.is("4: asked(" + i + ")", x.asked(i), state / 65536 % 16);
        }
        Due.is("4: draw(0, 1, 5)", x.draw(0, 1, 5), 40);
        Due.is("4: draw(3, 1, 5)", x.draw(3, 1, 5), 43);
        Due.is("4: by 1 it is 0", x.asked(41), 0);
        Due.is("4: draw(-1, 1, 5)", x.draw(-1, 1, 5), ShelfJudge.NUMBER);
        Due.is("4: draw(301, 1, 5)", x.draw(301, 1, 5), ShelfJudge.NUMBER);
        Due.is("4: draw(1, 0, 5)", x.draw(1, 0, 5), ShelfJudge.NUMBER);
        Due.is("4: draw(1, 17, 5)", x.draw(1, 17, 5), ShelfJudge.NUMBER);
        Due.is("4: draw(1, -3, 5)", x.draw(1, -3, 5), ShelfJudge.NUMBER);
        Due.is("4: draw(max, 2, 5)", x.draw(Integer.MAX_VALUE, 2, 5), ShelfJudge.NUMBER);
        Due.is("4: draw(258, 2, 5)", x.draw(258, 2, 5), ShelfJudge.FULL);
        Due.is("4: draw(300, 17, 5)", x.draw(300, 17, 5), ShelfJudge.NUMBER);
        Due.is("4: nothing came", x.many(0), 43);
        Due.is("4: draw(257, 2, 5)", x.draw(257, 2, 5), 300);
        Due.is("4: draw(0, 2, 5)", x.draw(0, 2, 5), 300);
        Due.is("4: draw(1, 2, 5)", x.draw(1, 2, 5), ShelfJudge.FULL);
        Due.is("4: draw(300, 16, 9)", new ShelfJudge().draw(300, 16, 9), 300);
        ShelfJudge y = new ShelfJudge();
        y.draw(12, 3, 7);
        int[] want = {0, 2};
        for (int i = 0; i < want.length; i++) {
            Due.is("4: asked(" + i + ") by 3 from 7", y.asked(i), want[i]);
        }
    }

    private static void change() {
        ShelfJudge x = new ShelfJudge();
        Due.is("5: of none", x.change(0, 0), ShelfJudge.NUMBER);
        x.ask(1, 2, 3, -1, -1);
        Due.is("5: change(2, 15)", x.change(2, 15), 1);
        Due.is("5: change(0, 0)", x.change(0, 0), 1);
        Due.is("5: change(3, 0)", x.change(3, 0), ShelfJudge.NUMBER);
        Due.is("5: change(-1, 0)", x.change(-1, 0), ShelfJudge.NUMBER);
        Due.is("5: change(1, 16)", x.change(1, 16), ShelfJudge.NUMBER);
        Due.is("5: change(1, -1)", x.change(1, -1), ShelfJudge.NUMBER);
        int[] want = {0, 2, 15, -1};
        for (int i = 0; i < want.length; i++) {
            Due.is("5: asked(" + i + ")", x.asked(i), want[i]);
        }
    }

    private static void cut() {
        ShelfJudge x = new ShelfJudge();
        Due.is("6: cut(0) of none", x.cut(0), 0);
        Due.is("6: cut(1) of none", x.cut(1), ShelfJudge.NUMBER);
        x.ask(1, 2, 3, 4, -1);
        Due.is("6: cut(5)", x.cut(5), ShelfJudge.NUMBER);
        Due.is("6: cut(-1)", x.cut(-1), ShelfJudge.NUMBER);
        Due.is("6: cut(min)", x.cut(Integer.MIN_VALUE), ShelfJudge.NUMBER);
        Due.is("6: cut(4)", x.cut(4), 4);
        Due.is("6: cut(2)", x.cut(2), 2);
        Due.is("6: asked(1)", x.asked(1), 2);
        Due.is("6: asked(2)", x.asked(2), -1);
        Due.is("6: cut(3)", x.cut(3), ShelfJudge.NUMBER);
        Due.is("6: comes behind the cut", x.ask(9, -1, -1, -1, -1), 3);
        Due.is("6: asked(2) again", x.asked(2), 9);
        x.claim(3);
        Due.is("6: cut(0)", x.cut(0), 0);
        Due.is("6: many(0)", x.many(0), 0);
        Due.is("6: what is told stays", x.many(2), 1);
    }

    private static void asked() {
        ShelfJudge x = new ShelfJudge();
        Due.is("7: of none", x.asked(0), -1);
        x.ask(8, 0, -1, -1, -1);
        Due.is("7: asked(0)", x.asked(0), 8);
        Due.is("7: asked(1)", x.asked(1), 0);
        Due.is("7: asked(2)", x.asked(2), -1);
        Due.is("7: asked(-1)", x.asked(-1), -1);
        Due.is("7: asked(max)", x.asked(Integer.MAX_VALUE), -1);
        Due.is("7: asked(min)", x.asked(Integer.MIN_VALUE), -1);
    }

    private static void many() {
        ShelfJudge x = new ShelfJudge();
        x.ask(4, 4, 9, 4, 15);
        x.price(4, 10);
        x.price(15, 100);
        x.price(0, 1000);
        x.claim(-1);
        x.claim(5);
        Due.is("8: many(0)", x.many(0), 5);
        Due.is("8: many(1)", x.many(1), 3);
        Due.is("8: many(2)", x.many(2), 2);
        Due.is("8: many(3)", x.many(3), 131);
        Due.is("8: many(4)", x.many(4), -1);
        Due.is("8: many(-1)", x.many(-1), -1);
        x.cut(0);
        x.draw(300, 1, 0);
        Due.is("8: the dearest row", x.many(3), 300000);
        Due.is("8: of one thing", x.many(1), 1);
    }

    /** A run is forgotten by each of these that isn't refused, and by no other call. */
    private static void forgetting() {
        for (int call = 0; call < 20; call++) {
            ShelfJudge x = new ShelfJudge();
            x.ask(0, 1, 2, 0, 1);
            x.serve(0, 2);
            boolean forgets = callNumber(x, call);
            Due.is("3: a run behind call " + call, x.paid(), forgets ? ShelfJudge.STATE : 5);
            Due.is("3: its gone(2) behind call " + call, x.gone(2), forgets ? -1 : 0);
        }
    }

    private static boolean callNumber(ShelfJudge x, int call) {
        switch (call) {
            case 0: x.price(9, 1); return true;
            case 1: x.price(9, 0); return false;
            case 2: x.ask(-1, 0, 0, 0, 0); return true;
            case 3: x.ask(16, 0, 0, 0, 0); return false;
            case 4: x.draw(0, 1, 0); return true;
            case 5: x.draw(0, 0, 0); return false;
            case 6: x.change(0, 0); return true;
            case 7: x.change(5, 0); return false;
            case 8: x.cut(5); return true;
            case 9: x.cut(6); return false;
            case 10: x.hard(0, 2, 5); return true;
            case 11: x.hard(8, 2, 5); return false;
            case 12: x.hard(0, 9, 5); return false;
            case 13: x.fewest(3); return false;
            case 14: x.serve(1, 9); return false;
            case 15: x.check(8, 3); return false;
            case 16: x.cost(3); return false;
            case 17: x.least(3); return false;
            case 18: x.claim(3); x.unclaim(); return false;
            default: x.draw(300, 3, 3); return false;
        }
    }
}
