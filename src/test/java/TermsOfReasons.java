/** What the terms say of the reasons of a step, and of exceptions. */
final class TermsOfReasons {
    private TermsOfReasons() {}

    static void ask(Checks checks) {
        checks.section("Terms");
        checks.test(TermsOfReasons::theFirstThatHolds);
        checks.test(TermsOfReasons::barred);
        checks.test(TermsOfReasons::behind);
        checks.test(TermsOfReasons::notDone);
        checks.test(TermsOfReasons::tooLate);
        checks.test(TermsOfReasons::untried);
        checks.test(TermsOfReasons::lacking);
        checks.test(TermsOfReasons::noRight);
        checks.test(TermsOfReasons::noReason);
        checks.test(TermsOfReasons::noSuchPlace);
        checks.test(TermsOfReasons::stateThenArgument);
        checks.test(TermsOfReasons::changesNothing);
    }

    private static void theFirstThatHolds(Checks checks) {
        checks.sentence("REASONS of a step (an object, a method, a person, an hour), the first of these that holds");
        MaterialBars x = Samples.made("4", "", "b4,x0,a5:0,t,u3*1,i", "x0,a5:0,t,u3*1,i", "a0:7,t,u3*1,i", "t,u3*1,i",
                "u3*1,i", "i");
        x.right(0, 0, true);
        x.done(0, 0, 0, 0, 10);
        int[] due = {100, 200, 300, 404, 503, 600};
        for (int k = 0; k < due.length; k++) {
            checks.due("reason of method " + (k + 1), x.reason(0, k + 1, 0, 12), due[k]);
        }
        x.right(0, 6, true);
        checks.due("a second person is no reason", x.reason(0, 6, 0, 12), 0);
    }

    private static void barred(Checks checks) {
        checks.sentence("100 + the first part whose material the method bars");
        MaterialBars x = Samples.allowed("53525559", "b3", "b2,b3,b5", "b0,b1,b4,b6,b7,b8", "b9", "b9,b2");
        checks.due("a part in the middle", x.reason(0, 0, 0, 0), 101);
        checks.due("the first part, not the lowest material", x.reason(0, 1, 0, 0), 100);
        checks.due("no such part", x.reason(0, 2, 0, 0), 0);
        checks.due("the eighth part", x.reason(0, 3, 0, 0), 107);
        checks.due("the first of two", x.reason(0, 4, 0, 0), 103);
    }

    private static void behind(Checks checks) {
        checks.sentence("200 + the lowest method that it may not come behind, and that was done");
        MaterialBars x = Samples.allowed("", "", "", "", "", "x11,x3,x0", "x5", "", "", "", "", "", "");
        checks.due("none done", x.reason(0, 4, 0, 0), 0);
        x.done(0, 10, 0, 0, 0);
        x.done(0, 1, 0, 0, 0);
        checks.due("others done", x.reason(0, 4, 0, 0), 0);
        x.done(0, 11, 0, 0, 0);
        checks.due("the highest", x.reason(0, 4, 0, 0), 211);
        x.done(0, 3, 0, 0, 0);
        checks.due("a lower one", x.reason(0, 4, 0, 0), 203);
        x.done(0, 0, 0, 0, 0);
        checks.due("the lowest", x.reason(0, 4, 0, 0), 200);
        checks.due("itself, not done", x.done(0, 5, 0, 0, 0), 0);
        checks.due("itself, done", x.reason(0, 5, 0, 0), 205);
        x.object();
        checks.due("on another object", x.reason(1, 4, 0, 0), 0);
    }

    private static void notDone(Checks checks) {
        checks.sentence("300 + the lowest method that it comes after, and that was not done");
        MaterialBars x = Samples.allowed("", "", "", "", "", "a11:0,a3:0,a0:0", "a5:0", "", "", "", "", "", "");
        checks.due("none done", x.reason(0, 4, 0, 0), 300);
        x.done(0, 0, 0, 0, 0);
        checks.due("the lowest done", x.reason(0, 4, 0, 0), 303);
        x.done(0, 3, 0, 0, 0);
        checks.due("but for the highest", x.reason(0, 4, 0, 0), 311);
        x.done(0, 11, 0, 0, 0);
        checks.due("all done", x.reason(0, 4, 0, 0), 0);
        checks.due("after itself", x.reason(0, 5, 0, 1000000), 305);
        x.object();
        checks.due("on another object", x.reason(1, 4, 0, 0), 300);
    }

    private static void tooLate(Checks checks) {
        checks.sentence("or too late for its hours");
        MaterialBars x = Samples.allowed("", "", "", "a1:10,a0:5");
        x.done(0, 0, 0, 0, 100);
        x.done(0, 1, 0, 0, 101);
        checks.due("for both: the lowest", x.reason(0, 2, 0, 104), 300);
        checks.due("for 1 alone", x.reason(0, 2, 0, 105), 301);
        checks.due("by one hour", x.reason(0, 2, 0, 110), 301);
        checks.due("just not", x.reason(0, 2, 0, 111), 0);
        x.done(0, 0, 0, 0, 999995);
        checks.due("the latest counts", x.reason(0, 2, 0, 999999), 300);
        checks.due("at the last hour", x.reason(0, 2, 0, 1000000), 0);
        checks.due("at the first hour", x.reason(0, 2, 0, 0), 300);
    }

    private static void untried(Checks checks) {
        checks.sentence("400 + the lowest material of a part for which it needs a trial and has none that was good");
        MaterialBars x = Samples.allowed("9290", "t", "");
        x.trial(1, 0, true);
        checks.due("another method's trial", x.reason(0, 0, 0, 0), 400);
        x.trial(0, 0, true);
        checks.due("the next", x.reason(0, 0, 0, 0), 402);
        x.trial(0, 2, true);
        checks.due("the highest", x.reason(0, 0, 0, 0), 409);
        x.trial(0, 9, false);
        checks.due("a bad one", x.reason(0, 0, 0, 0), 409);
        x.trial(0, 9, true);
        checks.due("all good", x.reason(0, 0, 0, 0), 0);
        checks.due("none needed", x.reason(0, 1, 0, 0), 0);
    }

    private static void lacking(Checks checks) {
        checks.sentence("500 + the lowest good of which there is less than it uses in all");
        MaterialBars x = Samples.allowed("", "u11*3,u0*4,u11*3", "");
        x.stock(0, 3);
        checks.due("one less of 0", x.reason(0, 0, 0, 0), 500);
        x.stock(0, 1);
        checks.due("just enough of 0", x.reason(0, 0, 0, 0), 511);
        x.stock(11, 5);
        checks.due("one less of 11 than in all", x.reason(0, 0, 0, 0), 511);
        x.stock(11, 1);
        checks.due("just enough of 11", x.reason(0, 0, 0, 0), 0);
        checks.due("asking takes nothing", x.about(11, 0), 6);
        checks.due("one that uses nothing", Samples.allowed("", "").reason(0, 0, 0, 0), 0);
    }

    private static void noRight(Checks checks) {
        checks.sentence("600: the person has no right to it");
        MaterialBars x = Samples.made("", "", "");
        x.right(3, 0, true);
        checks.due("another person", x.reason(0, 0, 2, 0), 600);
        checks.due("another method", x.reason(0, 1, 3, 0), 600);
        x.right(3, 0, false);
        checks.due("not any more", x.reason(0, 0, 3, 0), 600);
    }

    private static void noReason(Checks checks) {
        checks.sentence("else 0.");
        MaterialBars x = Samples.allowed("1", "", "u1*1,b2,x2,a0:3,t,i", "");
        x.stock(1, 1);
        x.trial(1, 1, true);
        x.done(0, 0, 0, 0, 0);
        checks.due("all is as it has to be", x.reason(0, 1, 0, 3), 0);
    }

    private static void noSuchPlace(Checks checks) {
        checks.sentence("EXCEPTIONS: IndexOutOfBoundsException: there is no such object, method, material, good,"
                + " person, shelf, place.");
        for (int far : new int[] {-2, Integer.MIN_VALUE, Integer.MAX_VALUE}) {
            checks.refused("object " + far, Checks.INDEX, Samples::busy, x -> x.row(far, -1, 0));
            checks.refused("method " + far, Checks.INDEX, Samples::busy, x -> x.uses(far, 0));
            checks.refused("material " + far, Checks.INDEX, Samples::busy, x -> x.part(0, far));
            checks.refused("good " + far, Checks.INDEX, Samples::busy, x -> x.about(far, 0));
            checks.refused("person " + far, Checks.INDEX, Samples::busy, x -> x.right(far, 0, true) ? 1 : 0);
            checks.refused("shelf " + far, Checks.INDEX, Samples::busy, x -> x.put(0, far));
            checks.refused("row " + far, Checks.INDEX, Samples::busy, x -> x.row(0, far, 0));
            checks.refused("step " + far, Checks.INDEX, Samples::busy, x -> x.step(far));
            checks.refused("what " + far, Checks.INDEX, Samples::busy, x -> x.count(far));
        }
    }

    private static void stateThenArgument(Checks checks) {
        checks.sentence("IllegalStateException, then IllegalArgumentException, as told.");
        checks.refused("no sign on a full pad", Checks.STATE, () -> Samples.withSigns(50), x -> x.unit(32));
        checks.refused("a wrong hour on 30 rows", Checks.STATE, () -> Samples.withRows(30),
                x -> x.done(0, 0, 0, 0, -1));
        checks.refused("no such person on 30 rows", Checks.INDEX, () -> Samples.withRows(30),
                x -> x.done(0, 0, 8, 0, 30));
        checks.refused("no such material on eight parts", Checks.INDEX, () -> Samples.made("01234567"),
                x -> x.part(0, 10));
        checks.refused("no such object and a wrong hour", Checks.INDEX, Samples::busy, x -> x.reason(2, 0, 0, -1));
        checks.refused("no such good and a wrong change", Checks.INDEX, Samples::busy, x -> x.stock(12, 1000001));
    }

    private static void changesNothing(Checks checks) {
        checks.sentence("Such a call changes nothing.");
        checks.refused("unit", Checks.ARGUMENT, Samples::busy, x -> x.unit(127));
        checks.refused("uses", Checks.INDEX, Samples::busy, x -> x.uses(4, 0));
        checks.refused("part", Checks.INDEX, Samples::busy, x -> x.part(0, 10));
        checks.refused("right", Checks.INDEX, Samples::busy, x -> x.right(8, 0, true) ? 1 : 0);
        checks.refused("trial", Checks.INDEX, Samples::busy, x -> x.trial(0, 10, true) ? 1 : 0);
        checks.refused("reason", Checks.ARGUMENT, Samples::busy, x -> x.reason(0, 0, 0, 1000001));
        checks.refused("done", Checks.ARGUMENT, Samples::busy, x -> x.done(0, 0, 0, 0, 11));
        checks.refused("row", Checks.INDEX, Samples::busy, x -> x.row(0, 3, 0));
        checks.refused("stock", Checks.ARGUMENT, Samples::busy, x -> x.stock(0, 1000001));
        checks.refused("about", Checks.INDEX, Samples::busy, x -> x.about(0, 4));
        checks.refused("apart", Checks.INDEX, Samples::busy, x -> x.apart(0, 12) ? 1 : 0);
        checks.refused("put", Checks.INDEX, Samples::busy, x -> x.put(1, 6));
        checks.refused("plan", Checks.INDEX, Samples::busy, x -> x.plan(0, 16));
        checks.refused("step", Checks.INDEX, Samples::busy, x -> x.step(1));
        checks.refused("count", Checks.INDEX, Samples::busy, x -> x.count(5));
        checks.refused("read", Checks.STATE, Samples::twelve, MaterialBars::read);
        checks.refused("object", Checks.STATE, TermsOfThings::tenObjects, MaterialBars::object);
    }
}
