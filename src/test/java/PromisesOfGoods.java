/** Promises 12 (stock), 13 (about), 14 (apart) and 15 (put), sentence by sentence. */
final class PromisesOfGoods {
    private static final int[] FAR = {-1, 12, 32, Integer.MIN_VALUE, Integer.MAX_VALUE};

    private PromisesOfGoods() {}

    static void ask(Checks checks) {
        checks.section("Promise 12: stock");
        checks.test(PromisesOfGoods::comeOrGo);
        checks.test(PromisesOfGoods::belowNothing);
        checks.test(PromisesOfGoods::aboveTheMost);
        checks.test(PromisesOfGoods::stockOfNoSuch);
        checks.test(PromisesOfGoods::noChange);
        checks.section("Promise 13: about");
        checks.test(PromisesOfGoods::whatIsAndCameAndWent);
        checks.test(PromisesOfGoods::wentBySteps);
        checks.test(PromisesOfGoods::itsShelf);
        checks.test(PromisesOfGoods::aboutNoSuch);
        checks.section("Promise 14: apart");
        checks.test(PromisesOfGoods::apartFromNowOn);
        checks.test(PromisesOfGoods::theSame);
        checks.test(PromisesOfGoods::onOneShelf);
        checks.test(PromisesOfGoods::apartOfNoSuch);
        checks.section("Promise 15: put");
        checks.test(PromisesOfGoods::comesOnAShelf);
        checks.test(PromisesOfGoods::onNone);
        checks.test(PromisesOfGoods::theLowestThatIsApart);
        checks.test(PromisesOfGoods::thenNothingChanges);
        checks.test(PromisesOfGoods::putOfNoSuch);
    }

    private static MaterialBars stocked(int good, int amount) {
        MaterialBars x = new MaterialBars();
        x.stock(good, amount);
        return x;
    }

    private static void comeOrGo(Checks checks) {
        checks.sentence("Goods come or go: what there is then");
        for (int good = 0; good < 12; good++) {
            MaterialBars x = new MaterialBars();
            checks.due("24 come", x.stock(good, 24), 24);
            checks.due("1 comes", x.stock(good, 1), 25);
            checks.due("none comes", x.stock(good, 0), 25);
            checks.due("20 go", x.stock(good, -20), 5);
            checks.due("the last go", x.stock(good, -5), 0);
            checks.due("another good", x.stock((good + 1) % 12, 0), 0);
        }
    }

    private static void belowNothing(Checks checks) {
        checks.sentence("NONE (nothing changes), if that would be below 0");
        checks.due("just 0", stocked(4, 7).stock(4, -7), 0);
        checks.inVain("-1", -1, () -> stocked(4, 7), x -> x.stock(4, -8));
        checks.inVain("-1 of none", -1, MaterialBars::new, x -> x.stock(4, -1));
        checks.inVain("far below", -1, () -> stocked(4, 7), x -> x.stock(4, -1000000));
        checks.due("just 0 from the most", stocked(4, 1000000).stock(4, -1000000), 0);
        checks.inVain("-1 from the most less 1", -1, () -> stocked(4, 999999), x -> x.stock(4, -1000000));
    }

    private static void aboveTheMost(Checks checks) {
        checks.sentence("or above 1000000.");
        checks.due("just 1000000", stocked(4, 7).stock(4, 999993), 1000000);
        checks.inVain("1000001", -1, () -> stocked(4, 7), x -> x.stock(4, 999994));
        checks.due("1000000 at once", new MaterialBars().stock(4, 1000000), 1000000);
        checks.inVain("one on the most", -1, () -> stocked(4, 1000000), x -> x.stock(4, 1));
        checks.inVain("as much again", -1, () -> stocked(4, 1000000), x -> x.stock(4, 1000000));
        checks.inVain("1 and 1000000", -1, () -> stocked(4, 1), x -> x.stock(4, 1000000));
        checks.due("nothing on the most", stocked(4, 1000000).stock(4, 0), 1000000);
    }

    private static void stockOfNoSuch(Checks checks) {
        checks.sentence("IndexOutOfBoundsException.");
        checks.due("the first", new MaterialBars().stock(0, 1), 1);
        checks.due("the last", new MaterialBars().stock(11, 1), 1);
        for (int far : FAR) {
            for (int change : new int[] {1, -1, 0, 1000001, -1000001}) {
                checks.refused("good " + far + ", " + change, Checks.INDEX, Samples::busy, x -> x.stock(far, change));
            }
        }
    }

    private static void noChange(Checks checks) {
        checks.sentence("IllegalArgumentException: change is not -1000000 .. 1000000.");
        checks.due("1000000", new MaterialBars().stock(0, 1000000), 1000000);
        checks.due("-1000000", stocked(0, 1000000).stock(0, -1000000), 0);
        checks.due("-1000000 is a change, though too much", new MaterialBars().stock(0, -1000000), -1);
        for (int change : new int[] {1000001, -1000001, Integer.MIN_VALUE, Integer.MAX_VALUE}) {
            checks.refused("of nothing, " + change, Checks.ARGUMENT, MaterialBars::new, x -> x.stock(0, change));
            checks.refused("of 90, " + change, Checks.ARGUMENT, Samples::busy, x -> x.stock(1, change));
            checks.refused("of the most, " + change, Checks.ARGUMENT, () -> stocked(0, 1000000),
                    x -> x.stock(0, change));
        }
    }

    private static void whatIsAndCameAndWent(Checks checks) {
        checks.sentence("Of a good: 0 what there is, 1 all that came, 2 all that went");
        for (int good = 0; good < 12; good++) {
            MaterialBars x = stocked(good, 7);
            x.stock(good, -3);
            x.stock(good, 4);
            x.stock(good, 1);
            x.stock(good, -1);
            x.stock(good, -100);
            x.stock(good, 1000000);
            x.stock(good, 0);
            checks.due("what there is", x.about(good, 0), 8);
            checks.due("all that came", x.about(good, 1), 12);
            checks.due("all that went", x.about(good, 2), 4);
            for (int what = 0; what < 3; what++) {
                checks.due("another good, " + what, x.about((good + 1) % 12, what), 0);
            }
        }
        checks.due("the most there can be", stocked(0, 1000000).about(0, 0), 1000000);
    }

    private static void wentBySteps(Checks checks) {
        checks.sentence("(by steps, too)");
        MaterialBars x = Samples.allowed("", "u0*2,u1*20,u1*5,u11*3", "u1*1,i");
        for (int good : new int[] {0, 1, 11}) {
            x.stock(good, 60);
        }
        x.stock(1, -4);
        x.done(0, 0, 0, 0, 0);
        x.done(0, 0, 0, 0, 0);
        checks.due("a refused step", x.done(0, 0, 0, 0, 0), 501);
        checks.due("one without a second person", x.done(0, 1, 0, 0, 0), 700);
        checks.due("what went of 0", x.about(0, 2), 4);
        checks.due("what went of 1", x.about(1, 2), 54);
        checks.due("what went of 11", x.about(11, 2), 6);
        checks.due("what went of 2", x.about(2, 2), 0);
        checks.due("what came of 1", x.about(1, 1), 60);
        checks.due("what there is of 1", x.about(1, 0), 6);
    }

    private static void itsShelf(Checks checks) {
        checks.sentence("3 its shelf (NONE: none).");
        MaterialBars x = new MaterialBars();
        checks.due("at first", x.about(11, 3), MaterialBars.NONE);
        x.put(11, 0);
        checks.due("on the first", x.about(11, 3), 0);
        x.put(11, 5);
        checks.due("on the last", x.about(11, 3), 5);
        checks.due("another good", x.about(10, 3), MaterialBars.NONE);
        x.put(11, MaterialBars.NONE);
        checks.due("on none", x.about(11, 3), MaterialBars.NONE);
    }

    private static void aboutNoSuch(Checks checks) {
        checks.sentence("IndexOutOfBoundsException: good, or what is none of these.");
        checks.due("the last of each", Samples.busy().about(11, 3), MaterialBars.NONE);
        checks.due("the first of each", Samples.busy().about(0, 0), 0);
        checks.refused("what 4", Checks.INDEX, Samples::busy, x -> x.about(1, 4));
        for (int far : FAR) {
            checks.refused("what " + far, Checks.INDEX, Samples::busy, x -> x.about(1, far));
            for (int what = 0; what < 4; what++) {
                int asked = what;
                checks.refused("good " + far + ", " + what, Checks.INDEX, Samples::busy, x -> x.about(far, asked));
            }
        }
    }

    private static void apartFromNowOn(Checks checks) {
        checks.sentence("Two goods are apart from now on: whether that can be");
        MaterialBars x = new MaterialBars();
        checks.due("both on none", x.apart(0, 11), true);
        checks.inVain("again", 1, Samples::busy, y -> y.apart(1, 2) ? 1 : 0);
        checks.inVain("the other way round", 1, Samples::busy, y -> y.apart(2, 1) ? 1 : 0);
        x.put(11, 3);
        checks.due("beside it", x.put(0, 3), 12);
        checks.due("on another shelf", x.put(0, 2), 0);
        checks.due("beside the other one", x.put(11, 2), 1);
        checks.due("on different shelves", x.apart(0, 11), true);
        checks.due("one on a shelf, one on none", x.apart(5, 0), true);
        checks.due("one on none, one on a shelf", x.apart(0, 6), true);
        checks.due("not through a third", x.put(5, 3) + x.put(6, 3), 0);
        checks.due("but from that one", x.put(5, 2), 1);
        checks.due("two more on different shelves", x.apart(11, 0), true);
    }

    private static void theSame(Checks checks) {
        checks.sentence("(not, if they are the same");
        for (int good = 0; good < 12; good++) {
            int same = good;
            checks.inVain("good " + good, 0, Samples::busy, x -> x.apart(same, same) ? 1 : 0);
            MaterialBars x = new MaterialBars();
            x.apart(good, good);
            checks.due("it may lie down", x.put(good, 0), 0);
            checks.due("and again", x.put(good, 0), 0);
        }
    }

    private static MaterialBars together(int a, int b, int shelf) {
        MaterialBars x = new MaterialBars();
        x.put(a, shelf);
        x.put(b, shelf);
        return x;
    }

    private static void onOneShelf(Checks checks) {
        checks.sentence("or on one shelf).");
        for (int shelf = 0; shelf < 6; shelf++) {
            int on = shelf;
            checks.inVain("on " + shelf, 0, () -> together(1, 3, on), x -> x.apart(1, 3) ? 1 : 0);
            checks.inVain("the other way round", 0, () -> together(1, 3, on), x -> x.apart(3, 1) ? 1 : 0);
            MaterialBars x = together(1, 3, shelf);
            x.apart(1, 3);
            x.put(3, MaterialBars.NONE);
            checks.due("they may lie together still", x.put(3, shelf), 0);
            x.put(3, (shelf + 1) % 6);
            checks.due("on two shelves they can be apart", x.apart(1, 3), true);
            checks.due("and then are", x.put(3, shelf), 2);
        }
        checks.due("on none, which is no shelf", together(1, 3, MaterialBars.NONE).apart(1, 3), true);
    }

    private static void apartOfNoSuch(Checks checks) {
        checks.sentence("IndexOutOfBoundsException.");
        checks.due("the first and the last", new MaterialBars().apart(0, 11), true);
        checks.due("the last and the first", new MaterialBars().apart(11, 0), true);
        for (int far : FAR) {
            checks.refused("a " + far, Checks.INDEX, Samples::busy, x -> x.apart(far, 0) ? 1 : 0);
            checks.refused("b " + far, Checks.INDEX, Samples::busy, x -> x.apart(0, far) ? 1 : 0);
            checks.refused("both " + far, Checks.INDEX, Samples::busy, x -> x.apart(far, far) ? 1 : 0);
        }
    }

    private static void comesOnAShelf(Checks checks) {
        checks.sentence("A good comes on a shelf");
        MaterialBars x = new MaterialBars();
        for (int good = 0; good < 12; good++) {
            checks.due("good " + good, x.put(good, 5), 0);
            checks.due("its shelf", x.about(good, 3), 5);
            checks.due("again on the same", x.put(good, 5), 0);
        }
        checks.due("on another", x.put(0, 0), 0);
        checks.due("it lies there", x.about(0, 3), 0);
        checks.due("the others stay", x.about(1, 3), 5);
    }

    private static void onNone(Checks checks) {
        checks.sentence("(NONE: on none)");
        MaterialBars x = new MaterialBars();
        x.apart(3, 4);
        checks.due("from none", x.put(3, MaterialBars.NONE), 0);
        checks.due("beside one that is apart, and on none, too", x.put(4, MaterialBars.NONE), 0);
        x.put(3, 0);
        checks.due("from a shelf", x.put(3, MaterialBars.NONE), 0);
        checks.due("it lies on none", x.about(3, 3), MaterialBars.NONE);
        checks.due("so the other may lie there", x.put(4, 0), 0);
    }

    private static MaterialBars crowded() {
        MaterialBars x = new MaterialBars();
        for (int good : new int[] {11, 9, 4, 7, 0}) {
            x.apart(good, 6);
        }
        x.put(11, 1);
        x.put(9, 1);
        x.put(7, 1);
        x.put(2, 1);
        x.put(4, 0);
        x.put(6, 5);
        return x;
    }

    private static void theLowestThatIsApart(Checks checks) {
        checks.sentence("0, or 1 + the lowest good on it that is apart from it");
        MaterialBars x = crowded();
        checks.due("7, not 4 on another shelf, not 0 on none, not 2 that isn't apart", x.put(6, 1), 8);
        x.put(7, MaterialBars.NONE);
        checks.due("the next", x.put(6, 1), 10);
        x.put(9, 0);
        checks.due("the last good", x.put(6, 1), 12);
        x.put(0, 1);
        checks.due("the first good", x.put(6, 1), 1);
        x.put(0, 2);
        x.put(11, 2);
        checks.due("none any more", x.put(6, 1), 0);
        checks.due("it lies there", x.about(6, 3), 1);
    }

    private static void thenNothingChanges(Checks checks) {
        checks.sentence("(then nothing changes)");
        checks.inVain("from a shelf", 8, PromisesOfGoods::crowded, x -> x.put(6, 1));
        checks.inVain("from none", 7, PromisesOfGoods::crowded, x -> x.put(0, 5));
        MaterialBars x = crowded();
        x.put(6, 1);
        checks.due("where it lies", x.about(6, 3), 5);
        checks.due("where the other lies", x.about(7, 3), 1);
    }

    private static void putOfNoSuch(Checks checks) {
        checks.sentence("IndexOutOfBoundsException.");
        checks.due("the last of each", new MaterialBars().put(11, 5), 0);
        checks.due("the first of each", new MaterialBars().put(0, 0), 0);
        for (int far : new int[] {-2, 6, 32, Integer.MIN_VALUE, Integer.MAX_VALUE}) {
            checks.refused("shelf " + far, Checks.INDEX, Samples::busy, x -> x.put(1, far));
            checks.refused("shelf " + far + ", a good that is apart of none", Checks.INDEX, Samples::busy,
                    x -> x.put(5, far));
        }
        for (int far : FAR) {
            checks.refused("good " + far, Checks.INDEX, Samples::busy, x -> x.put(far, 0));
            checks.refused("good " + far + " on none", Checks.INDEX, Samples::busy, x -> x.put(far, MaterialBars.NONE));
        }
    }
}
