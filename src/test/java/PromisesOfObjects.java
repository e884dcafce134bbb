/** Promises 5 (object), 6 (part), 7 (right) and 8 (trial), sentence by sentence. */
final class PromisesOfObjects {
    private static final int[] FAR = {-1, 32, Integer.MIN_VALUE, Integer.MAX_VALUE};

    private PromisesOfObjects() {}

    static void ask(Checks checks) {
        checks.section("Promise 5: object");
        checks.test(PromisesOfObjects::anObjectWithoutParts);
        checks.test(PromisesOfObjects::thereAreTen);
        checks.section("Promise 6: part");
        checks.test(PromisesOfObjects::aPart);
        checks.test(PromisesOfObjects::partOfNoSuch);
        checks.test(PromisesOfObjects::itHasEight);
        checks.section("Promise 7: right");
        checks.test(PromisesOfObjects::aRightOrNot);
        checks.test(PromisesOfObjects::rightOfNoSuch);
        checks.section("Promise 8: trial");
        checks.test(PromisesOfObjects::inPlaceOfAFormer);
        checks.test(PromisesOfObjects::trialOfNoSuch);
    }

    private static void anObjectWithoutParts(Checks checks) {
        checks.sentence("An object without parts: its number.");
        MaterialBars x = new MaterialBars();
        Samples.tell(x, "b0,b1,b2,b3,b4,b5,b6,b7,b8,b9");
        x.right(0, 0, true);
        for (int k = 0; k < 10; k++) {
            checks.due("object()", x.object(), k);
            checks.due("objects", x.count(2), k + 1);
            checks.due("no part that could be barred", x.reason(k, 0, 0, 0), 0);
            checks.due("no rows", x.row(k, -1, 0), 0);
            checks.due("its first part", x.part(k, k), 0);
            checks.due("which is barred", x.reason(k, 0, 0, 0), 100);
        }
    }

    private static void thereAreTen(Checks checks) {
        checks.sentence("IllegalStateException: there are ten.");
        MaterialBars x = new MaterialBars();
        for (int k = 0; k < 9; k++) {
            x.object();
        }
        checks.due("the tenth", x.object(), 9);
        checks.refused("an eleventh", Checks.STATE, TermsOfThings::tenObjects, MaterialBars::object);
    }

    private static void aPart(Checks checks) {
        checks.sentence("A part: its number.");
        MaterialBars x = Samples.allowed("", "b7", "b0");
        x.object();
        for (int k = 0; k < 8; k++) {
            checks.due("part " + k, x.part(1, 8 - k), k);
        }
        checks.due("the other object's first", x.part(0, 9), 0);
        checks.due("again the same material", x.part(0, 9), 1);
        checks.due("another", x.part(0, 0), 2);
        checks.due("the part of material 7", x.reason(1, 0, 0, 0), 101);
        checks.due("the other object has none", x.reason(0, 0, 0, 0), 0);
        checks.due("but one of material 0", x.reason(0, 1, 0, 0), 102);
    }

    private static void partOfNoSuch(Checks checks) {
        checks.sentence("IndexOutOfBoundsException: object or material.");
        checks.due("the last object, the first material", Samples.busy().part(1, 0), 1);
        checks.due("the first object, the last material", Samples.busy().part(0, 9), 2);
        checks.refused("the first object that is not there", Checks.INDEX, Samples::busy, x -> x.part(2, 0));
        checks.refused("the first material that is not there", Checks.INDEX, Samples::busy, x -> x.part(0, 10));
        checks.refused("no object at all", Checks.INDEX, MaterialBars::new, x -> x.part(0, 0));
        for (int far : FAR) {
            checks.refused("object " + far, Checks.INDEX, Samples::busy, x -> x.part(far, 0));
            checks.refused("material " + far, Checks.INDEX, Samples::busy, x -> x.part(0, far));
            checks.refused("material " + far + " on eight", Checks.INDEX, () -> Samples.made("01234567"),
                    x -> x.part(0, far));
        }
    }

    private static void itHasEight(Checks checks) {
        checks.sentence("IllegalStateException: it has eight.");
        checks.due("the eighth", Samples.made("0123456").part(0, 7), 7);
        for (int material = 0; material < 10; material++) {
            int ninth = material;
            checks.refused("a ninth of material " + material, Checks.STATE, () -> Samples.made("01234567"),
                    x -> x.part(0, ninth));
        }
        MaterialBars x = Samples.made("01234567");
        x.object();
        checks.due("another object has room", x.part(1, 0), 0);
    }

    private static void aRightOrNot(Checks checks) {
        checks.sentence("A person has a right, or not: whether that was not so.");
        MaterialBars x = Samples.made("", "", "");
        checks.due("none, and none before", x.right(7, 0, false), false);
        checks.due("one, and none before", x.right(7, 0, true), true);
        checks.due("with it", x.reason(0, 0, 7, 0), 0);
        checks.due("one, and one before", x.right(7, 0, true), false);
        checks.due("with it still", x.reason(0, 0, 7, 0), 0);
        checks.due("another person's", x.right(0, 0, true), true);
        checks.due("to another method", x.right(7, 1, true), true);
        checks.due("none, and one before", x.right(7, 0, false), true);
        checks.due("without it", x.reason(0, 0, 7, 0), 600);
        checks.due("another person has his", x.reason(0, 0, 0, 0), 0);
        checks.due("so to another method", x.reason(0, 1, 7, 0), 0);
        checks.inVain("none, and none before", 0, Samples::busy, y -> y.right(2, 0, false) ? 1 : 0);
        checks.inVain("one, and one before", 0, Samples::busy, y -> y.right(7, 3, true) ? 1 : 0);
    }

    private static void rightOfNoSuch(Checks checks) {
        checks.sentence("IndexOutOfBoundsException.");
        checks.due("the first person, the last method", Samples.busy().right(0, 3, false), true);
        checks.due("the last person, the first method", Samples.busy().right(7, 0, true), true);
        for (boolean on : new boolean[] {true, false}) {
            checks.refused("person 8", Checks.INDEX, Samples::busy, x -> x.right(8, 0, on) ? 1 : 0);
            checks.refused("method 4 of 4", Checks.INDEX, Samples::busy, x -> x.right(0, 4, on) ? 1 : 0);
            checks.refused("method 12 of 12", Checks.INDEX, Samples::twelve, x -> x.right(0, 12, on) ? 1 : 0);
            for (int far : FAR) {
                checks.refused("person " + far, Checks.INDEX, Samples::busy, x -> x.right(far, 0, on) ? 1 : 0);
                checks.refused("method " + far, Checks.INDEX, Samples::busy, x -> x.right(0, far, on) ? 1 : 0);
            }
        }
        MaterialBars x = new MaterialBars();
        checks.due("a method that is not there", Checks.answerOf(y -> y.right(0, 0, true) ? 1 : 0, x),
                "IndexOutOfBoundsException");
        x.read();
        checks.due("gives no right to it when it is", x.right(0, 0, false), false);
    }

    private static void inPlaceOfAFormer(Checks checks) {
        checks.sentence("A method's trial on a material, in place of any former one: whether the former one was good.");
        MaterialBars x = Samples.allowed("9", "t", "t");
        checks.due("no former one", x.trial(0, 9, false), false);
        checks.due("behind a bad one", x.reason(0, 0, 0, 0), 409);
        checks.due("the former was bad", x.trial(0, 9, true), false);
        checks.due("behind a good one", x.reason(0, 0, 0, 0), 0);
        checks.due("the former was good", x.trial(0, 9, true), true);
        checks.due("another material has no former", x.trial(0, 8, true), false);
        checks.due("nor has another method", x.trial(1, 9, true), false);
        checks.due("a good one before a bad one", x.trial(0, 9, false), true);
        checks.due("behind that bad one", x.reason(0, 0, 0, 0), 409);
        checks.due("the other method's stays", x.reason(0, 1, 0, 0), 0);
        checks.due("the other material's stays", x.trial(0, 8, true), true);
        checks.due("the former was bad again", x.trial(0, 9, false), false);
    }

    private static void trialOfNoSuch(Checks checks) {
        checks.sentence("IndexOutOfBoundsException.");
        checks.due("the first method, the last material", Samples.busy().trial(0, 9, true), false);
        checks.due("the last method, the last material", Samples.busy().trial(3, 9, true), true);
        checks.due("the first material", Samples.busy().trial(0, 0, true), false);
        for (boolean good : new boolean[] {true, false}) {
            checks.refused("method 4 of 4", Checks.INDEX, Samples::busy, x -> x.trial(4, 0, good) ? 1 : 0);
            checks.refused("method 12 of 12", Checks.INDEX, Samples::twelve, x -> x.trial(12, 0, good) ? 1 : 0);
            checks.refused("material 10", Checks.INDEX, Samples::busy, x -> x.trial(0, 10, good) ? 1 : 0);
            for (int far : FAR) {
                checks.refused("method " + far, Checks.INDEX, Samples::busy, x -> x.trial(far, 0, good) ? 1 : 0);
                checks.refused("material " + far, Checks.INDEX, Samples::busy, x -> x.trial(0, far, good) ? 1 : 0);
            }
        }
        MaterialBars x = new MaterialBars();
        checks.due("a method that is not there", Checks.answerOf(y -> y.trial(0, 0, true) ? 1 : 0, x),
                "IndexOutOfBoundsException");
        x.read();
        checks.due("has no trial when it is", x.trial(0, 0, false), false);
    }
}
