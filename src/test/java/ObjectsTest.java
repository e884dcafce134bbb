/** Promises 5 (object), 6 (part), 7 (right) and 8 (trial). */
public final class ObjectsTest {
    private static final Checks CHECKS = new Checks("ObjectsTest");

    public static void main(String[] args) {
        objectsAreNumbered();
        partsAreNumbered();
        partRefuses();
        rightsComeAndGo();
        rightRefuses();
        trialsTakeTheFormersPlace();
        trialRefuses();
        CHECKS.end();
    }

    private static void objectsAreNumbered() {
        MaterialBars x = new MaterialBars();
        for (int k = 0; k < 10; k++) {
            CHECKS.due("object()", x.object(), k);
        }
        CHECKS.refused("an eleventh object", Checks.STATE, x, x::object);
        CHECKS.due("objects", x.count(2), 10);
    }

    private static void partsAreNumbered() {
        MaterialBars x = Checks.made("", "b7");
        x.object();
        for (int k = 0; k < 8; k++) {
            CHECKS.due("part(1, " + k + ")", x.part(1, k + 1), k);
        }
        CHECKS.due("the other object's first", x.part(0, 9), 0);
        CHECKS.due("again the same material", x.part(0, 9), 1);
        CHECKS.due("material 0", x.part(0, 0), 2);
        CHECKS.due("the part of material 7 is known", x.reason(1, 0, 0, 0), 106);
        CHECKS.due("the other object has none", x.reason(0, 0, 0, 0), 600);
    }

    private static void partRefuses() {
        MaterialBars x = Checks.made("01234567");
        int[][] wrong = {{-1, 0}, {1, 0}, {9, 0}, {10, 0}, {0, -1}, {0, 10}, {Integer.MAX_VALUE, 0},
            {0, Integer.MIN_VALUE}, {1, 10}};
        for (int[] call : wrong) {
            CHECKS.refused("part(" + call[0] + ", " + call[1] + ")", Checks.INDEX, x, () -> x.part(call[0], call[1]));
        }
        CHECKS.refused("a ninth part", Checks.STATE, x, () -> x.part(0, 0));
        MaterialBars y = Checks.made("0123456");
        CHECKS.refused("part(0, 10) on seven", Checks.INDEX, y, () -> y.part(0, 10));
        CHECKS.due("an eighth part", y.part(0, 7), 7);
    }

    private static void rightsComeAndGo() {
        MaterialBars x = Checks.made("", "", "");
        CHECKS.due("no right at first", x.right(0, 0, false), false);
        CHECKS.due("a right comes", x.right(0, 0, true), true);
        CHECKS.due("it was there", x.right(0, 0, true), false);
        CHECKS.due("to another method not", x.right(0, 1, false), false);
        CHECKS.due("another person not", x.right(7, 0, true), true);
        CHECKS.due("reason with a right", x.reason(0, 0, 0, 0), 0);
        CHECKS.due("it goes", x.right(0, 0, false), true);
        CHECKS.due("reason without", x.reason(0, 0, 0, 0), 600);
        CHECKS.due("the other person has his still", x.reason(0, 0, 7, 0), 0);
        CHECKS.due("not to the other method", x.reason(0, 1, 7, 0), 600);
    }

    private static void rightRefuses() {
        MaterialBars x = Checks.made("", "", "");
        int[][] wrong = {{-1, 0}, {8, 0}, {0, -1}, {0, 2}, {0, 11}, {0, 12}, {Integer.MIN_VALUE, 0},
            {0, Integer.MAX_VALUE}, {32, 0}};
        for (int[] call : wrong) {
            CHECKS.refused("right(" + call[0] + ", " + call[1] + ", true)", Checks.INDEX, x,
                    () -> x.right(call[0], call[1], true) ? 1 : 0);
        }
    }

    private static void trialsTakeTheFormersPlace() {
        MaterialBars x = Checks.made("9", "t", "t");
        CHECKS.due("no former one", x.trial(0, 9, false), false);
        CHECKS.due("the former was bad", x.trial(0, 9, true), false);
        CHECKS.due("the former was good", x.trial(0, 9, true), true);
        CHECKS.due("another material", x.trial(0, 0, false), false);
        CHECKS.due("reason behind a good one", x.reason(0, 0, 0, 0), 600);
        CHECKS.due("another method's doesn't count", x.reason(0, 1, 0, 0), 409);
        CHECKS.due("now a bad one", x.trial(0, 9, false), true);
        CHECKS.due("reason behind a bad one", x.reason(0, 0, 0, 0), 409);
        CHECKS.due("the former was bad again", x.trial(0, 9, false), false);
    }

    private static void trialRefuses() {
        MaterialBars x = Checks.made("", "", "");
        int[][] wrong = {{-1, 0}, {2, 0}, {12, 0}, {0, -1}, {0, 10}, {Integer.MIN_VALUE, 0}, {0, Integer.MAX_VALUE},
            {0, 32}};
        for (int[] call : wrong) {
            CHECKS.refused("trial(" + call[0] + ", " + call[1] + ", true)", Checks.INDEX, x,
                    () -> x.trial(call[0], call[1], true) ? 1 : 0);
        }
    }
}
