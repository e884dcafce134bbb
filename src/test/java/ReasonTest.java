/** Promise 9 (reason). */
public final class ReasonTest {
    private static final Checks CHECKS = new Checks("ReasonTest");

    public static void main(String[] args) {
        barredParts();
        notBehind();
        afterWithHours();
        trials();
        goods();
        theFirstThatHolds();
        reasonRefuses();
        CHECKS.end();
    }

    private static void barredParts() {
        MaterialBars x = Checks.made("5352", "b3", "b2,b3,b5", "b9,b0", "b2");
        CHECKS.due("the part of the barred material", x.reason(0, 0, 0, 0), 101);
        CHECKS.due("the first part, not the lowest material", x.reason(0, 1, 0, 0), 100);
        CHECKS.due("no such part", x.reason(0, 2, 0, 0), 600);
        CHECKS.due("the last part", x.reason(0, 3, 0, 0), 103);
        x.object();
        CHECKS.due("an object without parts", x.reason(1, 1, 0, 0), 600);
    }

    private static void notBehind() {
        MaterialBars x = Checks.made("", "", "", "x1,x0", "x11", "x4");
        Checks.allow(x, 5);
        CHECKS.due("none done", x.reason(0, 2, 0, 0), 0);
        x.done(0, 1, 0, 0, 0);
        CHECKS.due("1 is done", x.reason(0, 2, 0, 0), 201);
        x.done(0, 0, 0, 0, 0);
        CHECKS.due("the lowest one", x.reason(0, 2, 0, 0), 200);
        CHECKS.due("one that is not there", x.reason(0, 3, 0, 0), 0);
        CHECKS.due("itself, not done", x.done(0, 4, 0, 0, 0), 0);
        CHECKS.due("itself, done", x.reason(0, 4, 0, 0), 204);
        x.object();
        CHECKS.due("on another object", x.reason(1, 2, 0, 0), 0);
    }

    private static void afterWithHours() {
        MaterialBars x = Checks.made("", "", "", "a1:10,a0:5", "a11:0", "a0:0", "a0:3,a0:7,a0:2", "a6:0");
        Checks.allow(x, 7);
        CHECKS.due("the lowest, neither done", x.reason(0, 2, 0, 50), 300);
        x.done(0, 0, 0, 0, 100);
        CHECKS.due("the other not done", x.reason(0, 2, 0, 105), 301);
        x.done(0, 1, 0, 0, 101);
        CHECKS.due("too early for both", x.reason(0, 2, 0, 104), 300);
        CHECKS.due("too early for 1", x.reason(0, 2, 0, 105), 301);
        CHECKS.due("an hour too early", x.reason(0, 2, 0, 110), 301);
        CHECKS.due("just late enough", x.reason(0, 2, 0, 111), 0);
        CHECKS.due("one that is not there", x.reason(0, 3, 0, 200), 311);
        CHECKS.due("no hours between", x.reason(0, 4, 0, 100), 0);
        CHECKS.due("ahead of the one it comes after", x.reason(0, 4, 0, 99), 300);
        CHECKS.due("each of three clauses has to hold", x.reason(0, 5, 0, 106), 300);
        CHECKS.due("and all do", x.reason(0, 5, 0, 107), 0);
        CHECKS.due("after itself", x.reason(0, 6, 0, 1000), 306);
        x.done(0, 0, 0, 0, 120);
        CHECKS.due("the latest counts", x.reason(0, 2, 0, 124), 300);
        CHECKS.due("and is late enough", x.reason(0, 2, 0, 125), 0);
        CHECKS.due("the last hour", x.reason(0, 2, 0, 1000000), 0);
        x.object();
        CHECKS.due("on another object", x.reason(1, 4, 0, 1000), 300);
        x.done(1, 0, 0, 0, 0);
        CHECKS.due("done there at hour 0", x.reason(1, 4, 0, 0), 0);
    }

    private static void trials() {
        MaterialBars x = Checks.made("929", "t", "");
        Checks.allow(x, 2);
        CHECKS.due("the lowest material", x.reason(0, 0, 0, 0), 402);
        x.trial(0, 2, true);
        CHECKS.due("the other one", x.reason(0, 0, 0, 0), 409);
        x.trial(0, 9, false);
        CHECKS.due("a bad trial is none that was good", x.reason(0, 0, 0, 0), 409);
        x.trial(0, 9, true);
        CHECKS.due("all good", x.reason(0, 0, 0, 0), 0);
        CHECKS.due("none needed", x.reason(0, 1, 0, 0), 0);
        x.part(0, 0);
        CHECKS.due("a part more", x.reason(0, 0, 0, 0), 400);
        x.object();
        CHECKS.due("no part, no trial", x.reason(1, 0, 0, 0), 0);
    }

    private static void goods() {
        MaterialBars x = Checks.made("", "u11*3,u2*4,u11*3", "");
        Checks.allow(x, 2);
        CHECKS.due("the lowest good", x.reason(0, 0, 0, 0), 502);
        x.stock(2, 4);
        CHECKS.due("the other one", x.reason(0, 0, 0, 0), 511);
        x.stock(11, 5);
        CHECKS.due("one less than in all", x.reason(0, 0, 0, 0), 511);
        x.stock(11, 1);
        CHECKS.due("just enough", x.reason(0, 0, 0, 0), 0);
        CHECKS.due("asking takes nothing", x.about(11, 0), 6);
        CHECKS.due("uses nothing", x.reason(0, 1, 0, 0), 0);
        MaterialBars y = Checks.made("", "u5*1,u0*2");
        CHECKS.due("good 0", y.reason(0, 0, 0, 0), 500);
    }

    private static void theFirstThatHolds() {
        MaterialBars x = Checks.made("4", "", "b4,x0,a5:0,t,u3*1,i", "x0,a5:0,t,u3*1,i", "a0:7,t,u3*1,i", "t,u3*1,i",
                "u3*1,i", "i");
        x.right(0, 0, true);
        x.done(0, 0, 0, 0, 10);
        CHECKS.due("barred first", x.reason(0, 1, 0, 12), 100);
        CHECKS.due("then behind", x.reason(0, 2, 0, 12), 200);
        CHECKS.due("then too early", x.reason(0, 3, 0, 12), 300);
        CHECKS.due("then the trial", x.reason(0, 4, 0, 12), 404);
        CHECKS.due("then the goods", x.reason(0, 5, 0, 12), 503);
        CHECKS.due("then the right", x.reason(0, 6, 0, 12), 600);
        x.right(0, 6, true);
        CHECKS.due("a second person is no reason", x.reason(0, 6, 0, 12), 0);
    }

    private static void reasonRefuses() {
        MaterialBars x = Checks.made("1", "b1", "");
        int[][] places = {{-1, 0, 0}, {1, 0, 0}, {10, 0, 0}, {0, -1, 0}, {0, 2, 0}, {0, 12, 0}, {0, 0, -1}, {0, 0, 8},
            {Integer.MIN_VALUE, 0, 0}, {0, Integer.MAX_VALUE, 0}, {0, 0, Integer.MAX_VALUE}};
        for (int[] call : places) {
            for (int hour : new int[] {0, -1}) {
                CHECKS.refused("reason(" + call[0] + ", " + call[1] + ", " + call[2] + ", " + hour + ")", Checks.INDEX,
                        x, () -> x.reason(call[0], call[1], call[2], hour));
            }
        }
        for (int hour : new int[] {-1, 1000001, Integer.MIN_VALUE, Integer.MAX_VALUE}) {
            CHECKS.refused("hour " + hour, Checks.ARGUMENT, x, () -> x.reason(0, 0, 0, hour));
        }
        x.right(0, 1, true);
        x.done(0, 1, 0, 0, 500);
        CHECKS.due("an hour below the latest row's may be asked", x.reason(0, 1, 0, 499), 0);
        CHECKS.due("hour 1000000", x.reason(0, 1, 0, 1000000), 0);
    }
}
