/** Promises 9 (reason), 10 (done) and 11 (row), sentence by sentence. */
final class PromisesOfSteps {
    private static final int[] FAR = {-1, 32, Integer.MIN_VALUE, Integer.MAX_VALUE};
    private static final int[] NO_HOURS = {-1, 1000001, Integer.MIN_VALUE, Integer.MAX_VALUE};

    /** What done answers to each method of refusing(). */
    private static final int[] REASONS = {0, 100, 200, 300, 404, 503, 600, 700, 504};

    private PromisesOfSteps() {}

    static void ask(Checks checks) {
        checks.section("Promise 9: reason");
        checks.test(PromisesOfSteps::theReasonOfAStep);
        checks.test(PromisesOfSteps::noReason);
        checks.test(PromisesOfSteps::reasonOfNoSuch);
        checks.test(PromisesOfSteps::reasonAtNoHour);
        checks.section("Promise 10: done");
        checks.test(PromisesOfSteps::doesAStep);
        checks.test(PromisesOfSteps::itsReason);
        checks.test(PromisesOfSteps::theSecondIsTheSame);
        checks.test(PromisesOfSteps::theSecondHasNoRight);
        checks.test(PromisesOfSteps::whatItUsesGoes);
        checks.test(PromisesOfSteps::doneOfNoSuch);
        checks.test(PromisesOfSteps::secondIsAPerson);
        checks.test(PromisesOfSteps::thirtyRows);
        checks.test(PromisesOfSteps::doneAtNoHour);
        checks.test(PromisesOfSteps::belowTheLatestRow);
        checks.section("Promise 11: row");
        checks.test(PromisesOfSteps::aRow);
        checks.test(PromisesOfSteps::noSecondNeeded);
        checks.test(PromisesOfSteps::howManyRows);
        checks.test(PromisesOfSteps::rowOfNoSuch);
    }

    /** Each method but 0 is refused for another reason: see REASONS. */
    private static MaterialBars refusing() {
        MaterialBars x = Samples.made("4", "", "b4", "x0", "a0:7", "t", "u3*1", "", "u2*1,i", "u2*1,u4*1");
        for (int method = 0; method < 9; method++) {
            x.right(0, method, method != 6);
        }
        x.stock(2, 9);
        x.done(0, 0, 0, 0, 10);
        x.plan(0, 64);
        return x;
    }

    private static void theReasonOfAStep(Checks checks) {
        checks.sentence("The reason of a step");
        for (int method = 1; method < REASONS.length; method++) {
            int asked = method;
            // That a second person is missing is told by done alone.
            int due = REASONS[method] == 700 ? 0 : REASONS[method];
            checks.inVain("of method " + method, due, PromisesOfSteps::refusing, x -> x.reason(0, asked, 0, 12));
        }
    }

    private static void noReason(Checks checks) {
        checks.sentence("0 if there is none.");
        checks.inVain("of method 0", 0, PromisesOfSteps::refusing, x -> x.reason(0, 0, 0, 12));
        checks.due("at an hour below that of the latest row", refusing().reason(0, 0, 0, 9), 0);
        checks.due("on 30 rows", Samples.withRows(30).reason(0, 0, 0, 30), 0);
        checks.due("on an object without parts and rows", Samples.allowed("", "b1,x0,t").reason(0, 0, 0, 0), 0);
    }

    private static void reasonOfNoSuch(Checks checks) {
        checks.sentence("IndexOutOfBoundsException");
        checks.due("the last of each", Samples.busy().reason(1, 3, 7, 0), 0);
        for (int hour : new int[] {0, -1}) {
            checks.refused("object 2 of 2", Checks.INDEX, Samples::busy, x -> x.reason(2, 0, 0, hour));
            checks.refused("method 4 of 4", Checks.INDEX, Samples::busy, x -> x.reason(0, 4, 0, hour));
            checks.refused("person 8", Checks.INDEX, Samples::busy, x -> x.reason(0, 0, 8, hour));
            for (int far : FAR) {
                checks.refused("object " + far, Checks.INDEX, Samples::busy, x -> x.reason(far, 0, 0, hour));
                checks.refused("method " + far, Checks.INDEX, Samples::busy, x -> x.reason(0, far, 0, hour));
                checks.refused("person " + far, Checks.INDEX, Samples::busy, x -> x.reason(0, 0, far, hour));
            }
        }
    }

    private static void reasonAtNoHour(Checks checks) {
        checks.sentence("IllegalArgumentException: hour.");
        checks.due("hour 0", Samples.allowed("", "").reason(0, 0, 0, 0), 0);
        checks.due("hour 1000000", Samples.allowed("", "").reason(0, 0, 0, 1000000), 0);
        for (int hour : NO_HOURS) {
            checks.refused("hour " + hour, Checks.ARGUMENT, Samples::busy, x -> x.reason(0, 3, 0, hour));
            checks.refused("hour " + hour + ", barred", Checks.ARGUMENT, Samples::busy, x -> x.reason(1, 0, 0, hour));
        }
    }

    private static void doesAStep(Checks checks) {
        checks.sentence("Does a step: 0");
        MaterialBars x = Samples.allowed("", "", "a0:5", "x1");
        checks.due("a first step", x.done(0, 0, 0, 1, 3), 0);
        checks.due("its row", x.row(0, -1, 0), 1);
        checks.due("too early", x.done(0, 1, 0, 1, 7), 300);
        checks.due("just late enough", x.done(0, 1, 1, 0, 8), 0);
        checks.due("again the first, at the same hour", x.done(0, 0, 1, 1, 8), 0);
        checks.due("three rows", x.row(0, -1, 0), 3);
        checks.due("that step is done now", x.done(0, 2, 0, 0, 8), 201);
        checks.due("and the latest counts", x.done(0, 1, 1, 0, 12), 300);
        checks.due("at the last hour", x.done(0, 1, 1, 0, 1000000), 0);
    }

    private static void itsReason(Checks checks) {
        checks.sentence("its reason");
        for (int method = 1; method < REASONS.length; method++) {
            int asked = method;
            checks.inVain("of method " + method, REASONS[method], PromisesOfSteps::refusing,
                    x -> x.done(0, asked, 0, 0, 12));
        }
        MaterialBars x = refusing();
        x.done(0, 1, 0, 0, 500);
        checks.due("a refused step's hour is not the latest", x.done(0, 0, 0, 0, 10), 0);
    }

    private static void theSecondIsTheSame(Checks checks) {
        checks.sentence("or 700, if it needs two persons, and the second one is the same");
        checks.inVain("the same", 700, () -> Samples.allowed("", "i"), x -> x.done(0, 0, 1, 1, 0));
        checks.due("another", Samples.allowed("", "i").done(0, 0, 1, 0, 0), 0);
        checks.due("the same, if it needs one", Samples.allowed("", "").done(0, 0, 1, 1, 0), 0);
        checks.due("the same without a right: the reason first", Samples.allowed("", "i").done(0, 0, 2, 2, 0), 600);
        checks.due("the first alone without a right", Samples.allowed("", "i").done(0, 0, 2, 1, 0), 600);
    }

    private static void theSecondHasNoRight(Checks checks) {
        checks.sentence("or has no right to it.");
        checks.inVain("no right", 700, () -> Samples.allowed("", "i"), x -> x.done(0, 0, 0, 7, 0));
        checks.inVain("a right to another method", 700, Samples::busy, x -> x.done(1, 2, 0, 7, 3));
        MaterialBars x = Samples.allowed("", "i");
        x.right(7, 0, true);
        checks.due("a right", x.done(0, 0, 0, 7, 0), 0);
        x.right(7, 0, false);
        checks.due("no right any more", x.done(0, 0, 0, 7, 0), 700);
        checks.due("no right, if it needs one", Samples.allowed("", "").done(0, 0, 0, 7, 0), 0);
    }

    private static void whatItUsesGoes(Checks checks) {
        checks.sentence("What it uses goes.");
        MaterialBars x = Samples.allowed("", "u0*2,u1*20,u1*5,u11*3");
        x.stock(0, 9);
        x.stock(1, 50);
        x.stock(11, 9);
        x.stock(5, 9);
        checks.due("a step", x.done(0, 0, 0, 0, 0), 0);
        checks.due("of 0", x.about(0, 0), 7);
        checks.due("of 1", x.about(1, 0), 25);
        checks.due("of 11", x.about(11, 0), 6);
        checks.due("of a good that it doesn't use", x.about(5, 0), 9);
        checks.due("another step", x.done(0, 0, 0, 0, 0), 0);
        checks.due("down to 0", x.about(1, 0), 0);
        checks.due("no third step", x.done(0, 0, 0, 0, 0), 501);
        checks.due("by which nothing goes", x.about(0, 0), 5);
        checks.due("nor here", x.about(11, 0), 3);
    }

    private static void doneOfNoSuch(Checks checks) {
        checks.sentence("IndexOutOfBoundsException");
        checks.due("the last of each", Samples.busy().done(1, 3, 7, 7, 3), 0);
        for (int hour : new int[] {20, -1}) {
            checks.refused("object 2 of 2", Checks.INDEX, Samples::busy, x -> x.done(2, 3, 0, 0, hour));
            checks.refused("method 4 of 4", Checks.INDEX, Samples::busy, x -> x.done(0, 4, 0, 0, hour));
            checks.refused("person 8", Checks.INDEX, Samples::busy, x -> x.done(0, 3, 8, 0, hour));
            for (int far : FAR) {
                checks.refused("object " + far, Checks.INDEX, Samples::busy, x -> x.done(far, 3, 0, 0, hour));
                checks.refused("method " + far, Checks.INDEX, Samples::busy, x -> x.done(0, far, 0, 0, hour));
                checks.refused("person " + far, Checks.INDEX, Samples::busy, x -> x.done(0, 3, far, 0, hour));
            }
        }
    }

    private static void secondIsAPerson(Checks checks) {
        checks.sentence("(second: a person, whether needed or not)");
        for (int second = 0; second < 8; second++) {
            checks.due("second " + second, Samples.allowed("", "").done(0, 0, 0, second, 0), 0);
        }
        for (int far : new int[] {-1, 8, 32, Integer.MIN_VALUE, Integer.MAX_VALUE}) {
            checks.refused("not needed: " + far, Checks.INDEX, Samples::busy, x -> x.done(0, 3, 0, far, 20));
            checks.refused("needed: " + far, Checks.INDEX, Samples::busy, x -> x.done(1, 2, 0, far, 20));
            checks.refused("of a barred step: " + far, Checks.INDEX, Samples::busy, x -> x.done(1, 0, 0, far, 20));
            checks.refused("at no hour: " + far, Checks.INDEX, Samples::busy, x -> x.done(0, 3, 0, far, -1));
            checks.refused("on 30 rows: " + far, Checks.INDEX, () -> Samples.withRows(30),
                    x -> x.done(0, 0, 0, far, 30));
        }
    }

    private static void thirtyRows(Checks checks) {
        checks.sentence("IllegalStateException: the object has 30 rows.");
        MaterialBars x = Samples.withRows(29);
        checks.due("a refused step on 29", x.done(0, 1, 0, 0, 29), 100);
        checks.due("the 30th", x.done(0, 0, 0, 0, 29), 0);
        checks.due("is kept", x.row(0, 29, 1), 29);
        for (int hour : new int[] {29, 30, 1000000, 0, -1, 1000001}) {
            checks.refused("a 31st at " + hour, Checks.STATE, () -> Samples.withRows(30),
                    y -> y.done(0, 0, 0, 0, hour));
            checks.refused("a barred one at " + hour, Checks.STATE, () -> Samples.withRows(30),
                    y -> y.done(0, 1, 0, 0, hour));
        }
        x.object();
        checks.due("another object has room", x.done(1, 0, 0, 0, 0), 0);
    }

    private static void doneAtNoHour(Checks checks) {
        checks.sentence("IllegalArgumentException: hour");
        checks.due("hour 0", Samples.allowed("", "").done(0, 0, 0, 0, 0), 0);
        checks.due("hour 1000000", Samples.allowed("", "").done(0, 0, 0, 0, 1000000), 0);
        for (int hour : NO_HOURS) {
            checks.refused("hour " + hour, Checks.ARGUMENT, Samples::busy, x -> x.done(0, 3, 0, 0, hour));
            checks.refused("hour " + hour + ", no row yet", Checks.ARGUMENT, () -> Samples.allowed("", ""),
                    x -> x.done(0, 0, 0, 0, hour));
            checks.refused("hour " + hour + ", barred", Checks.ARGUMENT, Samples::busy,
                    x -> x.done(1, 0, 0, 0, hour));
        }
    }

    private static void belowTheLatestRow(Checks checks) {
        checks.sentence("also if it is below that of the object's latest row.");
        checks.due("the latest row's hour", Samples.busy().done(0, 3, 0, 0, 12), 0);
        checks.refused("one below", Checks.ARGUMENT, Samples::busy, x -> x.done(0, 3, 0, 0, 11));
        checks.refused("hour 0", Checks.ARGUMENT, Samples::busy, x -> x.done(0, 3, 0, 0, 0));
        checks.refused("one below, for a step that may not be", Checks.ARGUMENT, Samples::busy,
                x -> x.done(0, 1, 0, 0, 11));
        checks.due("another object has hours of its own", Samples.busy().done(1, 3, 0, 0, 3), 0);
        checks.refused("below those", Checks.ARGUMENT, Samples::busy, x -> x.done(1, 3, 0, 0, 2));
        MaterialBars last = Samples.allowed("", "");
        last.done(0, 0, 0, 0, 1000000);
        checks.due("the last hour twice", last.done(0, 0, 0, 0, 1000000), 0);
        checks.due("one below it", Checks.answerOf(x -> x.done(0, 0, 0, 0, 999999), last), "IllegalArgumentException");
    }

    private static void aRow(Checks checks) {
        checks.sentence("Row k of an object: 0 the method, 1 the hour, 2 the person, 3 the second one");
        MaterialBars x = Samples.busy();
        int[][] due = {{0, 10, 0, -1}, {3, 12, 0, -1}, {2, 12, 0, 1}};
        for (int k = 0; k < due.length; k++) {
            for (int what = 0; what < 4; what++) {
                checks.due("row(0, " + k + ", " + what + ")", x.row(0, k, what), due[k][what]);
            }
        }
        checks.due("the other object's method", x.row(1, 0, 0), 3);
        checks.due("the other object's hour", x.row(1, 0, 1), 3);
        checks.due("the other object's person", x.row(1, 0, 2), 7);
        MaterialBars full = Samples.withRows(30);
        for (int k = 0; k < 30; k++) {
            checks.due("the hour of row " + k, full.row(0, k, 1), k);
        }
    }

    private static void noSecondNeeded(Checks checks) {
        checks.sentence("(NONE if it needed none)");
        for (int second = 0; second < 8; second++) {
            MaterialBars x = Samples.allowed("", "", "i");
            x.right(second, 1, true);
            x.done(0, 0, 1, second, 0);
            checks.due("none needed, told was " + second, x.row(0, 0, 3), MaterialBars.NONE);
            if (second != 1) {
                x.done(0, 1, 1, second, 0);
                checks.due("one needed, told was " + second, x.row(0, 1, 3), second);
            }
        }
    }

    private static void howManyRows(Checks checks) {
        checks.sentence("k = -1: how many rows it has.");
        for (int rows : new int[] {0, 1, 29, 30}) {
            for (int what = 0; what < 4; what++) {
                checks.due("row(0, -1, " + what + ")", Samples.withRows(rows).row(0, -1, what), rows);
            }
        }
        checks.due("of the other object", Samples.busy().row(1, -1, 0), 1);
    }

    private static void rowOfNoSuch(Checks checks) {
        checks.sentence("IndexOutOfBoundsException: object, row, or what is none of these.");
        checks.due("the last of each", Samples.busy().row(0, 2, 3), 1);
        checks.due("the last row of 30", Samples.withRows(30).row(0, 29, 0), 0);
        checks.refused("row 30 of 30", Checks.INDEX, () -> Samples.withRows(30), x -> x.row(0, 30, 0));
        checks.refused("row 0 of none", Checks.INDEX, () -> Samples.withRows(0), x -> x.row(0, 0, 0));
        checks.refused("object 2 of 2", Checks.INDEX, Samples::busy, x -> x.row(2, 0, 0));
        checks.refused("rows of object 2 of 2", Checks.INDEX, Samples::busy, x -> x.row(2, -1, 0));
        checks.refused("row 3 of 3", Checks.INDEX, Samples::busy, x -> x.row(0, 3, 0));
        checks.refused("row -2", Checks.INDEX, Samples::busy, x -> x.row(0, -2, 0));
        for (int k : new int[] {0, -1}) {
            checks.refused("what 4 of " + k, Checks.INDEX, Samples::busy, x -> x.row(0, k, 4));
            for (int far : FAR) {
                checks.refused("what " + far + " of " + k, Checks.INDEX, Samples::busy, x -> x.row(0, k, far));
                checks.refused("object " + far + ", " + k, Checks.INDEX, Samples::busy, x -> x.row(far, k, 0));
            }
        }
        for (int far : new int[] {32, 1 << 30, Integer.MIN_VALUE, Integer.MAX_VALUE}) {
            checks.refused("row " + far, Checks.INDEX, Samples::busy, x -> x.row(0, far, 0));
        }
    }
}
