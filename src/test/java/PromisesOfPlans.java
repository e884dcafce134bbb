/** Promises 16 (plan), 17 (step) and 18 (count), sentence by sentence. */
final class PromisesOfPlans {
    private static final int[] FAR = {-1, 32, Integer.MIN_VALUE, Integer.MAX_VALUE};

    private PromisesOfPlans() {}

    static void ask(Checks checks) {
        checks.section("Promise 16: plan");
        checks.test(PromisesOfPlans::methodsOfASet);
        checks.test(PromisesOfPlans::allAfterWhichTheyCome);
        checks.test(PromisesOfPlans::notDone);
        checks.test(PromisesOfPlans::noOrder);
        checks.test(PromisesOfPlans::moreThanTen);
        checks.test(PromisesOfPlans::nothingIsPlanned);
        checks.test(PromisesOfPlans::askedFirst);
        checks.test(PromisesOfPlans::noStepBarsAPart);
        checks.test(PromisesOfPlans::eachBehindAllThatItComesAfter);
        checks.test(PromisesOfPlans::noneBehindOneThatItMayNot);
        checks.test(PromisesOfPlans::notThere);
        checks.test(PromisesOfPlans::theLowerMethodFirst);
        checks.test(PromisesOfPlans::planOfNoSuch);
        checks.section("Promise 17: step");
        checks.test(PromisesOfPlans::aStep);
        checks.test(PromisesOfPlans::noSuchStep);
        checks.section("Promise 18: count");
        checks.test(PromisesOfPlans::signs);
        checks.test(PromisesOfPlans::methods);
        checks.test(PromisesOfPlans::objects);
        checks.test(PromisesOfPlans::rows);
        checks.test(PromisesOfPlans::steps);
        checks.test(PromisesOfPlans::noSuchCount);
    }

    private static void methodsOfASet(Checks checks) {
        checks.sentence("Plans for an object the methods of a set (bits)");
        for (int method = 0; method < 12; method++) {
            checks.due("bit " + method, Samples.planned(Samples.twelve(), 0, 1 << method), "1: " + method);
        }
        checks.due("the empty set", Samples.planned(Samples.twelve(), 0, 0), "0: ");
        checks.due("the empty set, no method there", Samples.planned(Samples.made(""), 0, 0), "0: ");
        checks.due("four bits", Samples.planned(Samples.twelve(), 0, 1 | 4 | 32 | 2048), "4: 0 2 5 11");
        MaterialBars x = Samples.made("5", "u1*9,t,i", "a0:9999");
        checks.due("no stock, trial, right, second person or hour is asked", Samples.planned(x, 0, 2), "2: 0 1");
        checks.due("nothing is done by it", x.count(3), 0);
        checks.due("another plan takes its place", Samples.planned(x, 0, 1), "1: 0");
    }

    private static void allAfterWhichTheyCome(Checks checks) {
        checks.sentence("and all after which they come, over any others");
        MaterialBars down = Samples.made("", "a1:0", "a2:0", "a3:0", "a4:0", "a5:0", "a6:0", "a7:0", "a8:0", "a9:0",
                "");
        checks.due("a chain of ten", Samples.planned(down, 0, 1), "10: 9 8 7 6 5 4 3 2 1 0");
        checks.due("a part of it", Samples.planned(down, 0, 128), "3: 9 8 7");
        MaterialBars up = Samples.made("", "", "a0:0", "a1:0", "a2:0", "a3:0", "a4:0", "a5:0", "a6:0", "a7:0", "a8:0");
        checks.due("a chain of rising numbers", Samples.planned(up, 0, 512), "10: 0 1 2 3 4 5 6 7 8 9");
        MaterialBars both = Samples.made("", "a1:0", "a2:0,a11:0", "", "", "", "", "", "", "", "", "", "a5:0,a4:0");
        checks.due("several each", Samples.planned(both, 0, 1), "6: 2 4 5 11 1 0");
        MaterialBars x = Samples.made("", "x1", "", "");
        checks.due("not those that it may not come behind", Samples.planned(x, 0, 1), "1: 0");
    }

    private static void notDone(Checks checks) {
        checks.sentence("of these those that are not done on it: how many steps");
        MaterialBars x = Samples.allowed("", "a1:100", "a2:0", "", "");
        x.object();
        checks.due("none done", Samples.planned(x, 0, 1), "3: 2 1 0");
        x.done(0, 2, 0, 0, 0);
        checks.due("2 done", Samples.planned(x, 0, 1), "2: 1 0");
        x.done(0, 1, 0, 0, 0);
        checks.due("1 done, too; hours don't count", Samples.planned(x, 0, 1), "1: 0");
        checks.due("of the set itself", Samples.planned(x, 0, 15), "2: 0 3");
        checks.due("all done: no steps", Samples.planned(x, 0, 6), "0: ");
        checks.due("on another object", Samples.planned(x, 1, 1), "3: 2 1 0");
        x.done(0, 0, 0, 0, 100);
        checks.due("done, with all after which it comes", Samples.planned(x, 0, 1), "0: ");
        MaterialBars y = Samples.twelve();
        y.done(0, 3, 0, 0, 0);
        y.done(0, 3, 0, 0, 0);
        y.done(0, 11, 0, 0, 0);
        checks.due("twelve less two", Samples.planned(y, 0, 4095), "10: 0 1 2 4 5 6 7 8 9 10");
    }

    /** With a plan of the steps 0 and 9, to see that it stays. */
    private static MaterialBars knotted() {
        MaterialBars x = Samples.made("6", "", "a2:0", "a1:0", "x4", "x3", "a5:0", "a0:0,x0", "a11:0", "b6", "a0:0");
        x.plan(0, 512);
        return x;
    }

    private static void noOrder(Checks checks) {
        checks.sentence("NONE if no order may be");
        checks.inVain("a circle of two", -1, PromisesOfPlans::knotted, x -> x.plan(0, 2));
        checks.inVain("neither behind the other", -1, PromisesOfPlans::knotted, x -> x.plan(0, 8 | 16));
        checks.inVain("after itself", -1, PromisesOfPlans::knotted, x -> x.plan(0, 32));
        checks.inVain("after it and not behind it", -1, PromisesOfPlans::knotted, x -> x.plan(0, 64));
        checks.inVain("after one that is not there", -1, PromisesOfPlans::knotted, x -> x.plan(0, 128));
        checks.inVain("a barred part", -1, PromisesOfPlans::knotted, x -> x.plan(0, 256));
        checks.inVain("a good one ahead of a circle", -1, PromisesOfPlans::knotted, x -> x.plan(0, 8 | 2));
        checks.inVain("three ahead of a circle", -1, PromisesOfPlans::knotted, x -> x.plan(0, 8 | 512 | 2));
        checks.inVain("a good one beside a bad one", -1, PromisesOfPlans::knotted, x -> x.plan(0, 1 | 256));
        checks.due("each of two alone", Samples.planned(knotted(), 0, 8), "1: 3");
        checks.due("the other one alone", Samples.planned(knotted(), 0, 16), "1: 4");
        MaterialBars x = knotted();
        x.plan(0, 2);
        checks.due("the latest plan that could be stays", Samples.steps(x), "0 9");
    }

    private static MaterialBars twelveWithPlan() {
        MaterialBars x = Samples.twelve();
        x.plan(0, 2048 | 4);
        return x;
    }

    private static void moreThanTen(Checks checks) {
        checks.sentence("-2 (nothing is planned; asked first), if there are more than ten.");
        checks.due("nine", Samples.planned(Samples.twelve(), 0, 511), "9: 0 1 2 3 4 5 6 7 8");
        checks.due("ten", Samples.planned(Samples.twelve(), 0, 1023), "10: 0 1 2 3 4 5 6 7 8 9");
        checks.due("eleven", Samples.twelve().plan(0, 2047), -2);
        checks.due("twelve", Samples.twelve().plan(0, 4095), -2);
        MaterialBars x = Samples.twelve();
        x.done(0, 3, 0, 0, 0);
        checks.due("eleven less a done one", Samples.planned(x, 0, 2047), "10: 0 1 2 4 5 6 7 8 9 10");
        checks.due("twelve less a done one", x.plan(0, 4095), -2);
        MaterialBars chain = Samples.made("", "a1:0", "a2:0", "a3:0", "a4:0", "a5:0", "a6:0", "a7:0", "a8:0", "a9:0",
                "a10:0", "");
        checks.due("eleven by one bit", chain.plan(0, 1), -2);
        checks.due("ten by one bit", Samples.planned(chain, 0, 2), "10: 10 9 8 7 6 5 4 3 2 1");
    }

    private static void nothingIsPlanned(Checks checks) {
        checks.sentence("nothing is planned");
        checks.inVain("eleven", -2, PromisesOfPlans::twelveWithPlan, x -> x.plan(0, 2047));
        checks.inVain("twelve", -2, PromisesOfPlans::twelveWithPlan, x -> x.plan(0, 4095));
        checks.inVain("eleven, no plan before", -2, Samples::twelve, x -> x.plan(0, 2047));
        MaterialBars x = twelveWithPlan();
        x.plan(0, 4095);
        checks.due("the latest plan that could be stays", Samples.steps(x), "2 11");
    }

    private static void askedFirst(Checks checks) {
        checks.sentence("asked first");
        MaterialBars x = Samples.made("3", "", "", "", "", "", "", "", "", "", "b3,a0:0", "a0:0");
        checks.due("eleven, one of them barred", x.plan(0, 2047), -2);
        checks.due("ten, one of them barred", x.plan(0, 1023), -1);
        MaterialBars circle = Samples.made("", "a1:0", "a2:0", "a3:0", "a4:0", "a5:0", "a6:0", "a7:0", "a8:0", "a9:0",
                "a10:0", "a0:0");
        checks.due("eleven in a circle", circle.plan(0, 1), -2);
        MaterialBars small = Samples.made("", "a1:0", "a2:0", "a3:0", "a4:0", "a5:0", "a6:0", "a7:0", "a8:0", "a9:0",
                "a0:0");
        checks.due("ten in a circle", small.plan(0, 1), -1);
        MaterialBars absent = Samples.made("", "", "", "", "", "", "", "", "", "", "a11:0");
        checks.due("ten and one that is not there", absent.plan(0, 1023), -2);
        checks.due("nine and one that is not there", absent.plan(0, 1022), -1);
        MaterialBars failed = Samples.made("", "", "", "", "", "", "", "", "", "a9:0");
        Samples.tell(failed, "a10:0,a11:0,");
        checks.due("a text that failed counts for nothing", failed.plan(0, 511), -1);
    }

    private static void noStepBarsAPart(Checks checks) {
        checks.sentence("An order may be if no step's method bars a part");
        MaterialBars x = Samples.allowed("14", "b4", "b3", "a0:0", "b1", "b2,b5");
        checks.due("the last part", x.plan(0, 1), -1);
        checks.due("the first part", x.plan(0, 8), -1);
        checks.due("no such part", Samples.planned(x, 0, 2), "1: 1");
        checks.due("two that bar none of them", Samples.planned(x, 0, 2 | 16), "2: 1 4");
        checks.due("one that comes along", x.plan(0, 4), -1);
        x.object();
        checks.due("an object without parts", Samples.planned(x, 1, 4), "2: 0 2");
        x.part(0, 3);
        checks.due("a part more", x.plan(0, 2), -1);
        MaterialBars y = Samples.allowed("", "b4", "");
        y.done(0, 0, 0, 0, 0);
        y.part(0, 4);
        checks.due("a done one that would bar a part now is no step", Samples.planned(y, 0, 3), "1: 1");
    }

    private static void eachBehindAllThatItComesAfter(Checks checks) {
        checks.sentence("each comes behind all that it comes after (done ones, too)");
        MaterialBars x = Samples.allowed("", "a2:0,a3:0", "a0:0", "", "a2:0", "a4:0");
        checks.due("0 behind 2 and 3, 1 behind 0", Samples.planned(x, 0, 15), "4: 2 3 0 1");
        checks.due("never behind itself", x.plan(0, 16), -1);
        x.done(0, 2, 0, 0, 0);
        checks.due("behind a done one", Samples.planned(x, 0, 8), "1: 3");
        x.done(0, 3, 0, 0, 0);
        checks.due("behind two done ones, at whatever hours", Samples.planned(x, 0, 3), "2: 0 1");
    }

    private static void noneBehindOneThatItMayNot(Checks checks) {
        checks.sentence("and none behind one that it may not come behind (done ones, too)");
        MaterialBars x = Samples.allowed("", "", "x0", "x0,x1", "x3", "a2:0", "x11", "");
        checks.due("1 ahead of 0", Samples.planned(x, 0, 3), "2: 1 0");
        checks.due("2 ahead of both", Samples.planned(x, 0, 7), "3: 2 1 0");
        checks.due("alone", Samples.planned(x, 0, 2), "1: 1");
        checks.due("itself is no hindrance", Samples.planned(x, 0, 8), "1: 3");
        checks.due("one that is not there is none", Samples.planned(x, 0, 32), "1: 5");
        x.done(0, 0, 0, 0, 0);
        checks.due("0 done, and not of the set", x.plan(0, 2), -1);
        checks.due("0 done, and of the set", x.plan(0, 3), -1);
        checks.due("one that comes along", x.plan(0, 16), -1);
        x.object();
        checks.due("done on another object", Samples.planned(x, 1, 2), "1: 1");
        x.done(0, 3, 0, 0, 0);
        checks.due("done itself, so no step", Samples.planned(x, 0, 8), "0: ");
        x.done(1, 1, 0, 0, 0);
        checks.due("behind a done one that may not come behind it", Samples.planned(x, 1, 1), "1: 0");
    }

    private static void notThere(Checks checks) {
        checks.sentence("a method that is not there can't be planned.");
        MaterialBars x = Samples.made("", "a2:0", "x2");
        checks.due("after the next that will be read", x.plan(0, 1), -1);
        checks.due("not behind it", Samples.planned(x, 0, 2), "1: 1");
        checks.due("it is read", Samples.tell(x, ""), 2);
        checks.due("now it can be", Samples.planned(x, 0, 1), "2: 2 0");
        MaterialBars last = Samples.made("", "a11:0", "a0:0", "");
        checks.due("after the twelfth", last.plan(0, 1), -1);
        checks.due("over another", last.plan(0, 2), -1);
        checks.due("one beside it", Samples.planned(last, 0, 4), "1: 2");
    }

    private static void theLowerMethodFirst(Checks checks) {
        checks.sentence("Of such orders the one with the lower method where they differ first.");
        checks.due("free ones", Samples.planned(Samples.made("", "", "", ""), 0, 7), "3: 0 1 2");
        checks.due("0 waits for the last", Samples.planned(Samples.made("", "a3:0", "", "", ""), 0, 15), "4: 1 2 3 0");
        MaterialBars x = Samples.made("", "a2:5", "", "x1", "x0");
        checks.due("2 ahead of 0 and 1, 3 ahead of 0", Samples.planned(x, 0, 15), "4: 2 1 3 0");
        checks.due("3 ahead of 0, 2 comes along", Samples.planned(x, 0, 9), "3: 2 3 0");
        MaterialBars y = Samples.made("", "a2:0,x1", "", "");
        checks.due("1 waits for 0, and that for 2", Samples.planned(y, 0, 7), "3: 2 0 1");
        MaterialBars z = Samples.made("", "a5:0", "a0:0", "", "x2", "", "x4");
        checks.due("a mixed one", Samples.planned(z, 0, 63), "6: 3 2 5 0 1 4");
    }

    private static void planOfNoSuch(Checks checks) {
        checks.sentence("IndexOutOfBoundsException: object, or the set has a method that is not there.");
        checks.due("the last object", Samples.busy().plan(1, 8), 0);
        checks.due("the last method", Samples.planned(Samples.made("", "", ""), 0, 2), "1: 1");
        checks.refused("object 2 of 2", Checks.INDEX, Samples::busy, x -> x.plan(2, 1));
        for (int far : FAR) {
            checks.refused("object " + far, Checks.INDEX, Samples::busy, x -> x.plan(far, 1));
            checks.refused("object " + far + ", no method", Checks.INDEX, Samples::busy, x -> x.plan(far, 0));
        }
        for (int method = 4; method < 32; method++) {
            int absent = method;
            checks.refused("method " + method + " of 4", Checks.INDEX, Samples::busy, x -> x.plan(1, 1 << absent));
            checks.refused("beside all four", Checks.INDEX, Samples::busy, x -> x.plan(1, 15 | 1 << absent));
        }
        checks.refused("all bits", Checks.INDEX, Samples::busy, x -> x.plan(1, -1));
        for (int method = 12; method < 32; method++) {
            int absent = method;
            checks.refused("method " + method + " of 12", Checks.INDEX, PromisesOfPlans::twelveWithPlan,
                    x -> x.plan(0, 1 << absent));
        }
        checks.refused("all bits of twelve", Checks.INDEX, PromisesOfPlans::twelveWithPlan, x -> x.plan(0, -1));
        checks.refused("no method there", Checks.INDEX, () -> Samples.made(""), x -> x.plan(0, 1));
        checks.refused("no object there", Checks.INDEX, MaterialBars::new, x -> x.plan(0, 0));
    }

    private static void aStep(Checks checks) {
        checks.sentence("Step k of the latest plan that could be.");
        MaterialBars x = Samples.twelve();
        x.plan(0, 4095 & ~3);
        for (int k = 0; k < 10; k++) {
            checks.due("step(" + k + ")", x.step(k), k + 2);
        }
        x.plan(0, 4095);
        checks.due("behind one of more than ten", x.step(9), 11);
        x.plan(0, 2 | 32);
        checks.due("of a shorter plan the first", x.step(0), 1);
        checks.due("of a shorter plan the last", x.step(1), 5);
        MaterialBars y = knotted();
        y.plan(0, 2);
        checks.due("behind one that could not be", y.step(0) * 10 + y.step(1), 9);
        x.done(0, 1, 0, 0, 0);
        checks.due("a step that is done stays planned", x.step(0), 1);
    }

    private static void noSuchStep(Checks checks) {
        checks.sentence("IndexOutOfBoundsException.");
        checks.due("the last", knotted().step(1), 9);
        checks.refused("step 2 of 2", Checks.INDEX, PromisesOfPlans::knotted, x -> x.step(2));
        for (int far : FAR) {
            checks.refused("step " + far, Checks.INDEX, PromisesOfPlans::knotted, x -> x.step(far));
        }
        checks.refused("no plan", Checks.INDEX, Samples::twelve, x -> x.step(0));
        checks.refused("an empty plan behind another", Checks.INDEX, () -> replanned(0), x -> x.step(0));
        checks.refused("a shorter plan behind another", Checks.INDEX, () -> replanned(4), x -> x.step(1));
        checks.due("step 9 of ten", replanned(1023).step(9), 9);
        checks.refused("step 10 of ten", Checks.INDEX, () -> replanned(1023), x -> x.step(10));
    }

    private static MaterialBars replanned(int set) {
        MaterialBars x = twelveWithPlan();
        x.plan(0, set);
        return x;
    }

    private static void signs(Checks checks) {
        checks.sentence("0 signs of the pad");
        for (int k : new int[] {0, 1, 49, 50}) {
            checks.due("of " + k, Samples.withSigns(k).count(0), k);
        }
        MaterialBars x = Samples.withSigns(5);
        Checks.answerOf(y -> y.unit(32), x);
        checks.due("behind a refused one", x.count(0), 5);
        x.read();
        checks.due("behind read", x.count(0), 0);
    }

    private static void methods(Checks checks) {
        checks.sentence("1 methods");
        MaterialBars x = new MaterialBars();
        checks.due("none", x.count(1), 0);
        for (int k = 1; k <= 12; k++) {
            Samples.tell(x, "?");
            checks.due("behind a wrong text", x.count(1), k - 1);
            x.read();
            checks.due("methods", x.count(1), k);
        }
        Checks.answerOf(MaterialBars::read, x);
        checks.due("behind a refused one", x.count(1), 12);
    }

    private static void objects(Checks checks) {
        checks.sentence("2 objects");
        MaterialBars x = new MaterialBars();
        checks.due("none", x.count(2), 0);
        for (int k = 1; k <= 10; k++) {
            x.object();
            checks.due("objects", x.count(2), k);
        }
        Checks.answerOf(MaterialBars::object, x);
        checks.due("behind a refused one", x.count(2), 10);
    }

    /** Ten objects with 30 rows each are 300 calls: the 512 of an object have room for them. */
    private static void rows(Checks checks) {
        checks.sentence("3 rows of all objects");
        MaterialBars x = Samples.allowed("", "", "b0");
        checks.due("none", x.count(3), 0);
        for (int object = 0; object < 10; object++) {
            for (int k = 0; k < 30; k++) {
                x.done(object, 0, 0, 0, k);
            }
            checks.due("rows", x.count(3), 30 * (object + 1));
            Checks.answerOf(y -> y.object(), x);
        }
        MaterialBars y = Samples.allowed("0", "", "b0");
        y.done(0, 1, 0, 0, 0);
        checks.due("behind a refused one", y.count(3), 0);
    }

    private static void steps(Checks checks) {
        checks.sentence("4 steps of the latest plan that could be.");
        MaterialBars x = Samples.twelve();
        checks.due("no plan", x.count(4), 0);
        x.plan(0, 1023);
        checks.due("ten", x.count(4), 10);
        x.plan(0, 2047);
        checks.due("behind one of more than ten", x.count(4), 10);
        Checks.answerOf(y -> y.plan(0, -1), x);
        checks.due("behind a refused one", x.count(4), 10);
        x.plan(0, 5);
        checks.due("two", x.count(4), 2);
        x.plan(0, 0);
        checks.due("an empty plan", x.count(4), 0);
        MaterialBars y = knotted();
        y.plan(0, 2);
        checks.due("behind one that could not be", y.count(4), 2);
    }

    private static void noSuchCount(Checks checks) {
        checks.sentence("IndexOutOfBoundsException: none of these.");
        int[] due = {4, 4, 2, 4, 1};
        for (int what = 0; what < 5; what++) {
            checks.due("count(" + what + ")", Samples.busy().count(what), due[what]);
        }
        checks.refused("count(5)", Checks.INDEX, Samples::busy, x -> x.count(5));
        for (int far : FAR) {
            checks.refused("count(" + far + ")", Checks.INDEX, Samples::busy, x -> x.count(far));
        }
    }
}
