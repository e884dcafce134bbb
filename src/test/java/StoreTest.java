/** Promises 12 (stock), 13 (about), 14 (apart) and 15 (put). */
public final class StoreTest {
    private static final Checks CHECKS = new Checks("StoreTest");

    public static void main(String[] args) {
        goodsComeAndGo();
        stockKeepsItsBounds();
        stockRefuses();
        aboutTells();
        aboutRefuses();
        apartIsForBoth();
        apartCannotBe();
        apartRefuses();
        putTellsTheLowestHindrance();
        putRefuses();
        CHECKS.end();
    }

    private static void goodsComeAndGo() {
        MaterialBars x = new MaterialBars();
        CHECKS.due("24 come", x.stock(1, 24), 24);
        CHECKS.due("1 comes", x.stock(1, 1), 25);
        CHECKS.due("20 go", x.stock(1, -20), 5);
        CHECKS.due("none comes", x.stock(1, 0), 5);
        CHECKS.due("the last go", x.stock(1, -5), 0);
        CHECKS.due("another good", x.stock(11, 0), 0);
        CHECKS.due("what came", x.about(1, 1), 25);
        CHECKS.due("what went", x.about(1, 2), 25);
    }

    private static void stockKeepsItsBounds() {
        MaterialBars x = new MaterialBars();
        String before = State.of(x);
        CHECKS.due("below 0", x.stock(0, -1), MaterialBars.NONE);
        CHECKS.due("far below 0", x.stock(0, -1000000), MaterialBars.NONE);
        CHECKS.due("nothing changed", State.of(x), before);
        CHECKS.due("up to the bound", x.stock(0, 1000000), 1000000);
        before = State.of(x);
        CHECKS.due("above it", x.stock(0, 1), MaterialBars.NONE);
        CHECKS.due("far above it", x.stock(0, 1000000), MaterialBars.NONE);
        CHECKS.due("nothing changed there", State.of(x), before);
        CHECKS.due("down to 0", x.stock(0, -1000000), 0);
        for (int k = 0; k < 100; k++) {
            x.stock(0, 1000000);
            x.stock(0, -1000000);
        }
        CHECKS.due("all that came", x.about(0, 1), 101000000L);
        CHECKS.due("all that went", x.about(0, 2), 101000000L);
    }

    private static void stockRefuses() {
        MaterialBars x = new MaterialBars();
        x.stock(0, 5);
        for (int good : new int[] {-1, 12, Integer.MIN_VALUE, Integer.MAX_VALUE}) {
            CHECKS.refused("stock(" + good + ", 1)", Checks.INDEX, x, () -> x.stock(good, 1));
            CHECKS.refused("stock(" + good + ", 1000001)", Checks.INDEX, x, () -> x.stock(good, 1000001));
        }
        for (int change : new int[] {1000001, -1000001, Integer.MIN_VALUE, Integer.MAX_VALUE}) {
            CHECKS.refused("stock(0, " + change + ")", Checks.ARGUMENT, x, () -> x.stock(0, change));
        }
    }

    private static void aboutTells() {
        MaterialBars x = new MaterialBars();
        x.stock(11, 7);
        x.stock(11, -3);
        x.put(11, 5);
        long[] due = {4, 7, 3, 5};
        for (int what = 0; what < 4; what++) {
            CHECKS.due("about(11, " + what + ")", x.about(11, what), due[what]);
            CHECKS.due("about(10, " + what + ")", x.about(10, what), what == 3 ? -1 : 0);
        }
    }

    private static void aboutRefuses() {
        MaterialBars x = new MaterialBars();
        int[][] wrong = {{-1, 0}, {12, 0}, {0, -1}, {0, 4}, {Integer.MIN_VALUE, 0}, {0, Integer.MAX_VALUE}};
        for (int[] call : wrong) {
            CHECKS.refused("about(" + call[0] + ", " + call[1] + ")", Checks.INDEX, x, () -> x.about(call[0], call[1]));
        }
    }

    private static void apartIsForBoth() {
        for (int first = 3; first <= 4; first++) {
            MaterialBars x = new MaterialBars();
            x.apart(3, 4);
            x.put(first, 0);
            CHECKS.due("the other way of 3 and 4 than " + first, x.put(7 - first, 0), 1 + first);
        }
        apartIsKept();
    }

    private static void apartIsKept() {
        MaterialBars x = new MaterialBars();
        CHECKS.due("two on no shelf", x.apart(0, 11), true);
        CHECKS.due("again", x.apart(0, 11), true);
        CHECKS.due("the other way round", x.apart(11, 0), true);
        CHECKS.due("one lies down", x.put(11, 3), 0);
        CHECKS.due("the other may not", x.put(0, 3), 12);
        CHECKS.due("but there", x.put(0, 2), 0);
        CHECKS.due("then the first may not go there", x.put(11, 2), 1);
        CHECKS.due("two on different shelves", x.apart(0, 11), true);
        CHECKS.due("a third is apart of none", x.put(5, 2), 0);
        CHECKS.due("one on a shelf, one on none", x.apart(5, 6), true);
        CHECKS.due("not through another", x.put(6, 3), 0);
    }

    private static void apartCannotBe() {
        MaterialBars x = new MaterialBars();
        x.put(1, 0);
        x.put(3, 0);
        String before = State.of(x);
        CHECKS.due("the same", x.apart(1, 1), false);
        CHECKS.due("the same on no shelf", x.apart(2, 2), false);
        CHECKS.due("on one shelf", x.apart(1, 3), false);
        CHECKS.due("the other way round", x.apart(3, 1), false);
        CHECKS.due("nothing changed", State.of(x), before);
        x.put(3, -1);
        CHECKS.due("they may lie together still", x.put(3, 0), 0);
        x.put(3, -1);
        CHECKS.due("off the shelf they can be apart", x.apart(1, 3), true);
        CHECKS.due("and then are", x.put(3, 0), 2);
    }

    private static void apartRefuses() {
        MaterialBars x = new MaterialBars();
        int[][] wrong = {{-1, 0}, {12, 0}, {0, -1}, {0, 12}, {-1, -1}, {12, 12}, {0, Integer.MAX_VALUE}, {32, 0}};
        for (int[] call : wrong) {
            CHECKS.refused("apart(" + call[0] + ", " + call[1] + ")", Checks.INDEX, x,
                    () -> x.apart(call[0], call[1]) ? 1 : 0);
        }
    }

    private static void putTellsTheLowestHindrance() {
        MaterialBars x = new MaterialBars();
        for (int good : new int[] {9, 4, 7}) {
            x.apart(good, 6);
        }
        x.put(9, 1);
        x.put(7, 1);
        x.put(4, 0);
        x.put(2, 1);
        x.put(6, 5);
        CHECKS.due("the lowest that is apart", x.put(6, 1), 8);
        CHECKS.due("nothing changed", x.about(6, 3), 5);
        x.put(7, MaterialBars.NONE);
        CHECKS.due("then the next", x.put(6, 1), 10);
        x.put(9, 0);
        CHECKS.due("then none", x.put(6, 1), 0);
        CHECKS.due("it lies there", x.about(6, 3), 1);
        CHECKS.due("again on the same", x.put(6, 1), 0);
        CHECKS.due("on none", x.put(6, MaterialBars.NONE), 0);
        CHECKS.due("it lies nowhere", x.about(6, 3), MaterialBars.NONE);
        CHECKS.due("on none again, with others that are on none", x.put(7, MaterialBars.NONE), 0);
    }

    private static void putRefuses() {
        MaterialBars x = new MaterialBars();
        int[][] wrong = {{-1, 0}, {12, 0}, {0, -2}, {0, 6}, {-1, -1}, {12, -1}, {0, Integer.MIN_VALUE},
            {0, Integer.MAX_VALUE}};
        for (int[] call : wrong) {
            CHECKS.refused("put(" + call[0] + ", " + call[1] + ")", Checks.INDEX, x, () -> x.put(call[0], call[1]));
        }
        CHECKS.due("the last shelf", x.put(0, 5), 0);
    }
}
