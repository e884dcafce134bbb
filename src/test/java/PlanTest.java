/** Promises 16 (plan), 17 (step) and 18 (count). */
public final class PlanTest {
    private static final Checks CHECKS = new Checks("PlanTest");

    public static void main(String[] args) {
        theLowestOrder();
        allThatComesAhead();
        doneOnesAreLeftOut();
        noOrder();
        barsAndDoneOnes();
        moreThanTen();
        moreThanTenIsAskedFirst();
        thingsThatDoNotMatter();
        anotherObjectAnotherPlan();
        planRefuses();
        stepRefuses();
        countTells();
        countRefuses();
        CHECKS.end();
    }

    /** The answer to plan, and the steps if there is a plan. */
    private static String planned(MaterialBars x, int object, int set) {
        int length = x.plan(object, set);
        return length < 0 ? String.valueOf(length) : steps(x);
    }

    private static String steps(MaterialBars x) {
        StringBuilder text = new StringBuilder();
        for (int k = 0; k < x.count(4); k++) {
            text.append(k == 0 ? "" : " ").append(x.step(k));
        }
        return text.toString();
    }

    private static void theLowestOrder() {
        MaterialBars free = Checks.made("", "", "", "");
        CHECKS.due("free ones by number", planned(free, 0, 7), "0 1 2");
        CHECKS.due("one", planned(free, 0, 4), "2");
        CHECKS.due("none", planned(free, 0, 0), "");
        CHECKS.due("none: how many", free.plan(0, 0), 0);
        MaterialBars x = Checks.made("", "a2:5", "", "x1", "x0");
        CHECKS.due("2 ahead of 0 and 1, 3 ahead of 0", planned(x, 0, 15), "2 1 3 0");
        CHECKS.due("a not-behind only counts if both are planned", planned(x, 0, 2 | 8), "1 3");
        CHECKS.due("3 ahead of 0, 2 comes along", planned(x, 0, 1 | 8), "2 3 0");
        MaterialBars first = Checks.made("", "a2:0,x1", "", "");
        CHECKS.due("1 waits for 0, and that for 2", planned(first, 0, 7), "2 0 1");
        MaterialBars low = Checks.made("", "a3:0", "", "", "");
        CHECKS.due("the lower one where they differ first", planned(low, 0, 15), "1 2 3 0");
    }

    private static void allThatComesAhead() {
        MaterialBars x = Checks.made("", "a1:0", "a2:0", "a3:0", "a4:0,a5:0", "", "");
        CHECKS.due("a whole chain", planned(x, 0, 1), "4 5 3 2 1 0");
        CHECKS.due("a part of it", planned(x, 0, 8), "4 5 3");
        MaterialBars y = Checks.made("", "", "a0:0", "a1:0", "a2:0");
        CHECKS.due("a chain of rising numbers", planned(y, 0, 8), "0 1 2 3");
    }

    private static void doneOnesAreLeftOut() {
        MaterialBars x = Checks.made("", "a1:100", "a2:0", "", "x0");
        Checks.allow(x, 4);
        x.done(0, 2, 0, 0, 0);
        CHECKS.due("2 is done", planned(x, 0, 1), "1 0");
        x.done(0, 1, 0, 0, 0);
        CHECKS.due("1, too: hours don't count", planned(x, 0, 1), "0");
        CHECKS.due("all of the set done", planned(x, 0, 6), "");
        x.done(0, 0, 0, 0, 100);
        CHECKS.due("0 is done, 3 may not come behind it", planned(x, 0, 8), "-1");
        CHECKS.due("0 done itself", planned(x, 0, 1), "");
    }

    private static void noOrder() {
        MaterialBars x = Checks.made("", "", "a2:0", "a1:0", "x4", "x3", "a5:0", "a0:0,x0", "a11:0", "x8");
        x.plan(0, 1);
        CHECKS.due("a circle of after", planned(x, 0, 2), "-1");
        CHECKS.due("neither behind the other", planned(x, 0, 8 | 16), "-1");
        CHECKS.due("each of them alone", planned(x, 0, 8), "3");
        CHECKS.due("after itself", planned(x, 0, 32), "-1");
        CHECKS.due("after it and not behind it", planned(x, 0, 64), "-1");
        CHECKS.due("after one that is not there", planned(x, 0, 128), "-1");
        CHECKS.due("the latest that could be stays", steps(x), "3");
        CHECKS.due("not behind itself is no matter", planned(x, 0, 256), "8");
    }

    private static void barsAndDoneOnes() {
        MaterialBars x = Checks.made("14", "", "b4", "b3", "a1:0", "x0", "x5");
        Checks.allow(x, 6);
        CHECKS.due("a barred part", planned(x, 0, 2), "-1");
        CHECKS.due("no such part", planned(x, 0, 4), "2");
        CHECKS.due("after a barred one", planned(x, 0, 8), "-1");
        CHECKS.due("not behind 0", planned(x, 0, 1 | 16), "4 0");
        x.done(0, 0, 0, 0, 0);
        CHECKS.due("0 is done, not of the set", planned(x, 0, 16), "-1");
        CHECKS.due("nor if it is", planned(x, 0, 1 | 16), "-1");
        CHECKS.due("not behind itself, not done", planned(x, 0, 32), "5");
        x.done(0, 5, 0, 0, 0);
        CHECKS.due("done, so no step", planned(x, 0, 32), "");
        CHECKS.due("a barred part for method 0", planned(Checks.made("6", "b6"), 0, 1), "-1");
        x.object();
        CHECKS.due("another object, nothing barred or done", planned(x, 1, 2 | 16), "1 4");
        x.part(0, 3);
        CHECKS.due("a part more", planned(x, 0, 4), "-1");
    }

    private static void moreThanTen() {
        MaterialBars x = Checks.made("", "", "", "", "", "", "", "", "", "", "", "", "");
        Checks.allow(x, 12);
        CHECKS.due("ten", planned(x, 0, 1023), "0 1 2 3 4 5 6 7 8 9");
        CHECKS.due("eleven", x.plan(0, 2047), -2);
        CHECKS.due("twelve", x.plan(0, 4095), -2);
        CHECKS.due("the latest that could be stays", x.count(4), 10);
        x.done(0, 3, 0, 0, 0);
        CHECKS.due("eleven less a done one", planned(x, 0, 2047), "0 1 2 4 5 6 7 8 9 10");
        CHECKS.due("twelve less a done one", x.plan(0, 4095), -2);
        x.done(0, 0, 0, 0, 0);
        CHECKS.due("twelve less two", planned(x, 0, 4095), "1 2 4 5 6 7 8 9 10 11");
    }

    private static void moreThanTenIsAskedFirst() {
        MaterialBars x = Checks.made("3", "", "", "", "", "", "", "", "", "", "b3,a0:0", "a0:0");
        CHECKS.due("eleven, one of them barred", x.plan(0, 2047), -2);
        CHECKS.due("ten, one of them barred", x.plan(0, 1023), -1);
        MaterialBars y = Checks.made("", "", "", "", "", "", "", "", "", "", "a11:0");
        CHECKS.due("ten and one that is not there", y.plan(0, 1023), -2);
        CHECKS.due("nine and one that is not there", y.plan(0, 1022), -1);
        MaterialBars f = Checks.made("", "", "", "", "", "", "", "", "", "a9:0");
        Checks.tell(f, "a10:0,a11:0,");
        CHECKS.due("a text that failed counts for nothing", f.plan(0, 511), -1);
        MaterialBars z = Checks.made("", "a1:0", "a2:0", "a3:0", "a4:0", "a5:0", "a6:0", "a7:0", "a8:0", "a9:0", "a10:0",
                "a0:0");
        CHECKS.due("eleven in a circle", z.plan(0, 1), -2);
    }

    private static void thingsThatDoNotMatter() {
        MaterialBars x = Checks.made("5", "u1*9,t,i", "a0:9999");
        CHECKS.due("no stock, trial, right, second person or hour", planned(x, 0, 2), "0 1");
        CHECKS.due("nothing is done by it", x.count(3), 0);
    }

    private static void anotherObjectAnotherPlan() {
        MaterialBars x = Checks.made("", "", "");
        x.object();
        Checks.allow(x, 2);
        x.done(1, 0, 0, 0, 0);
        CHECKS.due("on 0", planned(x, 0, 3), "0 1");
        CHECKS.due("on 1", planned(x, 1, 3), "1");
        x.done(0, 0, 0, 0, 0);
        CHECKS.due("a step does not change the plan", steps(x), "1");
    }

    private static void planRefuses() {
        MaterialBars x = Checks.made("", "", "");
        x.plan(0, 3);
        int[][] wrong = {{-1, 0}, {1, 0}, {10, 0}, {0, 4}, {0, 7}, {0, 1 << 11}, {0, 1 << 12}, {0, -1},
            {0, Integer.MIN_VALUE}, {Integer.MAX_VALUE, 1}, {0, 1 << 30}};
        for (int[] call : wrong) {
            CHECKS.refused("plan(" + call[0] + ", " + call[1] + ")", Checks.INDEX, x, () -> x.plan(call[0], call[1]));
        }
        MaterialBars full = Checks.made("", "", "", "", "", "", "", "", "", "", "", "", "");
        CHECKS.refused("a thirteenth method", Checks.INDEX, full, () -> full.plan(0, 1 << 12));
        CHECKS.refused("all bits", Checks.INDEX, full, () -> full.plan(0, -1));
        MaterialBars none = Checks.made("");
        CHECKS.refused("no method is there", Checks.INDEX, none, () -> none.plan(0, 1));
        CHECKS.due("a set of none", none.plan(0, 0), 0);
    }

    private static void stepRefuses() {
        MaterialBars x = Checks.made("", "", "a0:0");
        CHECKS.refused("no plan: step(0)", Checks.INDEX, x, () -> x.step(0));
        x.plan(0, 2);
        CHECKS.due("step(0)", x.step(0), 0);
        CHECKS.due("step(1)", x.step(1), 1);
        for (int k : new int[] {-1, 2, 10, Integer.MIN_VALUE, Integer.MAX_VALUE}) {
            CHECKS.refused("step(" + k + ")", Checks.INDEX, x, () -> x.step(k));
        }
        x.plan(0, 1);
        CHECKS.refused("a shorter plan: step(1)", Checks.INDEX, x, () -> x.step(1));
        x.plan(0, 0);
        CHECKS.refused("an empty plan: step(0)", Checks.INDEX, x, () -> x.step(0));
    }

    private static void countTells() {
        MaterialBars x = Checks.made("", "", "a0:0", "");
        x.object();
        Checks.allow(x, 3);
        x.done(0, 0, 0, 0, 0);
        x.done(1, 0, 0, 0, 0);
        x.done(1, 2, 0, 0, 0);
        x.done(1, 2, 0, 0, 0);
        x.plan(0, 7);
        Checks.write(x, "b,zz?");
        int[] due = {5, 3, 2, 4, 2};
        for (int what = 0; what < 5; what++) {
            CHECKS.due("count(" + what + ")", x.count(what), due[what]);
        }
        for (int k = 2; k < 10; k++) {
            x.object();
        }
        x.done(9, 0, 0, 0, 0);
        CHECKS.due("rows of ten objects", x.count(3), 5);
        x.read();
        CHECKS.due("a bad text is no method", x.count(1), 3);
        CHECKS.due("the pad is empty", x.count(0), 0);
    }

    private static void countRefuses() {
        MaterialBars x = new MaterialBars();
        for (int what : new int[] {-1, 5, Integer.MIN_VALUE, Integer.MAX_VALUE}) {
            CHECKS.refused("count(" + what + ")", Checks.INDEX, x, () -> x.count(what));
        }
    }
}
