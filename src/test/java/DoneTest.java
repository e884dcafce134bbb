/** Promises 10 (done) and 11 (row). */
public final class DoneTest {
    private static final Checks CHECKS = new Checks("DoneTest");

    public static void main(String[] args) {
        aStepIsARow();
        whatAStepUsesGoes();
        aRefusedStepChangesNothing();
        twoPersons();
        doneRefuses();
        doneRefusesHours();
        doneRefusesAThirtyFirstRow();
        rowsAreTold();
        rowRefuses();
        CHECKS.end();
    }

    private static void aStepIsARow() {
        MaterialBars x = Checks.made("", "", "a0:5");
        Checks.allow(x, 2);
        CHECKS.due("a step", x.done(0, 0, 0, 1, 3), 0);
        CHECKS.due("a row", x.row(0, -1, 0), 1);
        CHECKS.due("too early", x.done(0, 1, 0, 1, 7), 300);
        CHECKS.due("late enough", x.done(0, 1, 1, 0, 8), 0);
        CHECKS.due("again the first, at the same hour", x.done(0, 0, 1, 1, 8), 0);
        CHECKS.due("three rows", x.row(0, -1, 0), 3);
        CHECKS.due("the latest counts", x.done(0, 1, 1, 0, 12), 300);
        CHECKS.due("the last hour", x.done(0, 1, 1, 0, 1000000), 0);
    }

    private static void whatAStepUsesGoes() {
        MaterialBars x = Checks.made("", "u1*20,u1*5,u3*2");
        Checks.allow(x, 1);
        x.stock(1, 60);
        x.stock(3, 4);
        CHECKS.due("a step", x.done(0, 0, 0, 0, 0), 0);
        CHECKS.due("what there is of 1", x.about(1, 0), 35);
        CHECKS.due("what there is of 3", x.about(3, 0), 2);
        CHECKS.due("what came of 1", x.about(1, 1), 60);
        CHECKS.due("what went of 1", x.about(1, 2), 25);
        CHECKS.due("what went of 0", x.about(0, 2), 0);
        CHECKS.due("another", x.done(0, 0, 0, 0, 0), 0);
        CHECKS.due("what went of 1 by two", x.about(1, 2), 50);
        CHECKS.due("no third", x.done(0, 0, 0, 0, 0), 501);
        CHECKS.due("3 is kept then", x.about(3, 0), 0);
        MaterialBars y = Checks.made("", "u0*2,u11*3");
        Checks.allow(y, 1);
        y.stock(0, 5);
        y.stock(11, 5);
        CHECKS.due("a step with the first good and the last", y.done(0, 0, 0, 0, 0), 0);
        CHECKS.due("what there is of 0", y.about(0, 0), 3);
        CHECKS.due("what there is of 11", y.about(11, 0), 2);
    }

    private static void aRefusedStepChangesNothing() {
        MaterialBars x = Checks.made("4", "", "b4", "x0", "a0:7", "t", "u3*1", "i", "u2*1,i");
        Checks.allow(x, 5);
        x.stock(2, 9);
        x.right(0, 7, true);
        CHECKS.due("a step", x.done(0, 0, 0, 0, 10), 0);
        int[] reasons = {100, 200, 300, 404, 503, 600, 700};
        for (int k = 0; k < reasons.length; k++) {
            int method = k + 1;
            String before = State.of(x);
            CHECKS.due("done by " + method, x.done(0, method, 0, 1, 12), reasons[k]);
            CHECKS.due("nothing changed by " + method, State.of(x), before);
        }
        CHECKS.due("nor is the hour the latest", x.done(0, 0, 0, 0, 11), 0);
    }

    private static void twoPersons() {
        MaterialBars x = Checks.made("", "i", "");
        x.right(2, 0, true);
        x.right(2, 1, true);
        CHECKS.due("the same person", x.done(0, 0, 2, 2, 0), 700);
        CHECKS.due("a second one without a right", x.done(0, 0, 2, 3, 0), 700);
        CHECKS.due("a first one without a right", x.done(0, 0, 3, 2, 0), 600);
        CHECKS.due("neither has a right", x.done(0, 0, 3, 3, 0), 600);
        x.right(3, 1, true);
        CHECKS.due("a right to another method", x.done(0, 0, 2, 3, 0), 700);
        x.right(3, 0, true);
        CHECKS.due("two persons", x.done(0, 0, 2, 3, 0), 0);
        CHECKS.due("the second is told", x.row(0, 0, 3), 3);
        CHECKS.due("none needed: the same", x.done(0, 1, 2, 2, 0), 0);
        CHECKS.due("none needed: another without a right", x.done(0, 1, 2, 7, 0), 0);
        CHECKS.due("none is told", x.row(0, 1, 3), MaterialBars.NONE);
        CHECKS.due("nor here", x.row(0, 2, 3), MaterialBars.NONE);
    }

    private static void doneRefuses() {
        MaterialBars x = Checks.made("1", "b1");
        int[][] places = {{-1, 0, 0, 0}, {1, 0, 0, 0}, {10, 0, 0, 0}, {0, -1, 0, 0}, {0, 1, 0, 0}, {0, 12, 0, 0},
            {0, 0, -1, 0}, {0, 0, 8, 0}, {0, 0, 0, -1}, {0, 0, 0, 8}, {0, 0, 0, Integer.MIN_VALUE}};
        for (int[] call : places) {
            for (int hour : new int[] {0, -1}) {
                CHECKS.refused("done(" + call[0] + ", " + call[1] + ", " + call[2] + ", " + call[3] + ", " + hour + ")",
                        Checks.INDEX, x, () -> x.done(call[0], call[1], call[2], call[3], hour));
            }
        }
    }

    private static void doneRefusesHours() {
        MaterialBars x = Checks.made("1", "b1", "");
        for (int hour : new int[] {-1, 1000001, Integer.MIN_VALUE, Integer.MAX_VALUE}) {
            CHECKS.refused("hour " + hour, Checks.ARGUMENT, x, () -> x.done(0, 0, 0, 0, hour));
        }
        x.right(0, 1, true);
        x.done(0, 1, 0, 0, 500);
        CHECKS.refused("an hour below the latest row's", Checks.ARGUMENT, x, () -> x.done(0, 1, 0, 0, 499));
        CHECKS.refused("so for a barred step", Checks.ARGUMENT, x, () -> x.done(0, 0, 0, 0, 499));
        x.object();
        CHECKS.due("another object has its own hours", x.done(1, 1, 0, 0, 2), 0);
        CHECKS.due("the latest row's hour", x.done(0, 1, 0, 0, 500), 0);
    }

    private static void doneRefusesAThirtyFirstRow() {
        MaterialBars x = Checks.made("1", "", "b1");
        Checks.allow(x, 2);
        for (int k = 0; k < 30; k++) {
            CHECKS.due("step " + k, x.done(0, 0, 0, 0, k), 0);
        }
        CHECKS.refused("a row too many", Checks.STATE, x, () -> x.done(0, 0, 0, 0, 100));
        CHECKS.refused("so for a step with a reason", Checks.STATE, x, () -> x.done(0, 1, 0, 0, 100));
        CHECKS.refused("state before argument", Checks.STATE, x, () -> x.done(0, 0, 0, 0, -1));
        CHECKS.refused("index before state", Checks.INDEX, x, () -> x.done(0, 0, 0, 8, 100));
        CHECKS.due("a reason may be asked", x.reason(0, 0, 0, 100), 0);
        CHECKS.due("the last row", x.row(0, 29, 1), 29);
        x.object();
        CHECKS.due("another object has rows left", x.done(1, 0, 0, 0, 0), 0);
    }

    private static void rowsAreTold() {
        MaterialBars x = Checks.made("", "", "i");
        x.object();
        for (int person = 4; person < 8; person++) {
            x.right(person, 0, true);
            x.right(person, 1, true);
        }
        CHECKS.due("no rows", x.row(0, -1, 0), 0);
        x.done(0, 1, 4, 5, 10);
        x.done(1, 0, 7, 7, 11);
        x.done(0, 0, 6, 5, 12);
        int[][] due = {{1, 10, 4, 5}, {0, 12, 6, -1}};
        for (int k = 0; k < 2; k++) {
            for (int what = 0; what < 4; what++) {
                CHECKS.due("row(0, " + k + ", " + what + ")", x.row(0, k, what), due[k][what]);
                CHECKS.due("row(0, -1, " + what + ")", x.row(0, -1, what), 2);
            }
        }
        CHECKS.due("the other object's rows", x.row(1, -1, 3), 1);
        CHECKS.due("the other object's person", x.row(1, 0, 2), 7);
    }

    private static void rowRefuses() {
        MaterialBars x = Checks.made("", "");
        Checks.allow(x, 1);
        x.done(0, 0, 0, 0, 10);
        int[][] wrong = {{-1, 0, 0}, {1, 0, 0}, {10, 0, 0}, {0, 1, 0}, {0, -2, 0}, {0, 30, 0}, {0, 0, -1}, {0, 0, 4},
            {0, -1, -1}, {0, -1, 4}, {1, -1, 0}, {0, Integer.MAX_VALUE, 0}, {0, Integer.MIN_VALUE, 0},
            {0, 0, Integer.MAX_VALUE}, {0, 1 << 30, 0}};
        for (int[] call : wrong) {
            CHECKS.refused("row(" + call[0] + ", " + call[1] + ", " + call[2] + ")", Checks.INDEX, x,
                    () -> x.row(call[0], call[1], call[2]));
        }
    }
}
