/** What the terms say of objects, hours, persons and goods. */
final class TermsOfThings {
    private TermsOfThings() {}

    static void ask(Checks checks) {
        checks.section("Terms");
        checks.test(TermsOfThings::objects);
        checks.test(TermsOfThings::parts);
        checks.test(TermsOfThings::rows);
        checks.test(TermsOfThings::hours);
        checks.test(TermsOfThings::persons);
        checks.test(TermsOfThings::noRightAtFirst);
        checks.test(TermsOfThings::stocks);
        checks.test(TermsOfThings::noStockAtFirst);
        checks.test(TermsOfThings::cameAndWent);
        checks.test(TermsOfThings::shelves);
        checks.test(TermsOfThings::apartIsNeverTogether);
    }

    static MaterialBars tenObjects() {
        MaterialBars x = new MaterialBars();
        for (int k = 0; k < 10; k++) {
            x.object();
        }
        return x;
    }

    private static void objects(Checks checks) {
        checks.sentence("OBJECTS are 0 .. 9");
        MaterialBars x = tenObjects();
        for (int k = 0; k < 10; k++) {
            checks.due("a part of object " + k, x.part(k, k), 0);
        }
        checks.refused("object -1", Checks.INDEX, TermsOfThings::tenObjects, y -> y.part(-1, 0));
        checks.refused("object 10", Checks.INDEX, TermsOfThings::tenObjects, y -> y.part(10, 0));
        checks.refused("an eleventh", Checks.STATE, TermsOfThings::tenObjects, MaterialBars::object);
    }

    private static void parts(Checks checks) {
        checks.sentence("each with at most eight PARTS of a material");
        MaterialBars x = new MaterialBars();
        x.object();
        x.object();
        for (int k = 0; k < 8; k++) {
            checks.due("a part of object 0", x.part(0, 9), k);
            checks.due("a part of object 1", x.part(1, k), k);
        }
        checks.refused("a ninth", Checks.STATE, () -> Samples.made("99999999"), y -> y.part(0, 9));
    }

    private static void rows(Checks checks) {
        checks.sentence("and ROWS of steps that were done, at most 30.");
        checks.due("the 30th", Samples.withRows(29).done(0, 0, 0, 0, 29), 0);
        checks.due("rows then", Samples.withRows(30).row(0, -1, 0), 30);
        checks.refused("a 31st", Checks.STATE, () -> Samples.withRows(30), x -> x.done(0, 0, 0, 0, 30));
        MaterialBars x = Samples.withRows(0);
        checks.due("a step that is refused", x.done(0, 1, 0, 0, 0), 100);
        checks.due("is no row", x.row(0, -1, 0), 0);
    }

    private static void hours(Checks checks) {
        checks.sentence("HOURS are 0 .. 1000000.");
        checks.due("asked at 0", Samples.allowed("", "").reason(0, 0, 0, 0), 0);
        checks.due("asked at 1000000", Samples.allowed("", "").reason(0, 0, 0, 1000000), 0);
        checks.due("done at 0", Samples.allowed("", "").done(0, 0, 0, 0, 0), 0);
        checks.due("done at 1000000", Samples.allowed("", "").done(0, 0, 0, 0, 1000000), 0);
        for (int hour : new int[] {-1, 1000001}) {
            checks.refused("asked at " + hour, Checks.ARGUMENT, () -> Samples.allowed("", ""),
                    x -> x.reason(0, 0, 0, hour));
            checks.refused("done at " + hour, Checks.ARGUMENT, () -> Samples.allowed("", ""),
                    x -> x.done(0, 0, 0, 0, hour));
        }
    }

    private static void persons(Checks checks) {
        checks.sentence("PERSONS are 0 .. 7, who have a RIGHT to a method or not");
        for (int person = 0; person < 8; person++) {
            MaterialBars x = Samples.made("", "", "");
            x.right(person, 1, true);
            for (int other = 0; other < 8; other++) {
                checks.due("person " + other + " to 1", x.reason(0, 1, other, 0), other == person ? 0 : 600);
                checks.due("person " + other + " to 0", x.reason(0, 0, other, 0), 600);
            }
        }
        for (int person : new int[] {-1, 8}) {
            checks.refused("person " + person, Checks.INDEX, Samples::busy, x -> x.reason(0, 0, person, 0));
        }
    }

    private static void noRightAtFirst(Checks checks) {
        checks.sentence("(at first not)");
        MaterialBars x = Samples.twelve();
        for (int person = 2; person < 8; person++) {
            for (int method = 0; method < 12; method++) {
                checks.due("person " + person + " to " + method, x.reason(0, method, person, 0), 600);
                checks.due("whether that changes", x.right(person, method, false), false);
            }
        }
    }

    private static void stocks(Checks checks) {
        checks.sentence("GOODS have a STOCK 0 .. 1000000");
        for (int good = 0; good < 12; good++) {
            MaterialBars x = new MaterialBars();
            checks.due("below 0", x.stock(good, -1), MaterialBars.NONE);
            checks.due("999999", x.stock(good, 999999), 999999);
            checks.due("1000001", x.stock(good, 2), MaterialBars.NONE);
            checks.due("1000000", x.stock(good, 1), 1000000);
            checks.due("0 again", x.stock(good, -1000000), 0);
        }
    }

    private static void noStockAtFirst(Checks checks) {
        checks.sentence("(0 at first)");
        MaterialBars x = new MaterialBars();
        for (int good = 0; good < 12; good++) {
            checks.due("what there is", x.about(good, 0), 0);
            checks.due("what there is then", x.stock(good, 0), 0);
        }
    }

    private static void cameAndWent(Checks checks) {
        checks.sentence("all that came and all that went");
        MaterialBars x = new MaterialBars();
        for (int k = 0; k < 150; k++) {
            x.stock(11, 1000000);
            x.stock(11, -999999 - k % 2);
            x.stock(11, k % 2 - 1);
        }
        checks.due("all that came", x.about(11, 1), 150000000L);
        checks.due("all that went", x.about(11, 2), 150000000L);
        checks.due("what there is", x.about(11, 0), 0);
        checks.due("another good", x.about(10, 1) + x.about(10, 2), 0);
    }

    private static void shelves(Checks checks) {
        checks.sentence("and lie on a SHELF 0 .. 5 or on none");
        MaterialBars x = new MaterialBars();
        for (int good = 0; good < 12; good++) {
            checks.due("at first", x.about(good, 3), MaterialBars.NONE);
            for (int shelf = MaterialBars.NONE; shelf < 6; shelf++) {
                checks.due("put on " + shelf, x.put(good, shelf), 0);
                checks.due("its shelf", x.about(good, 3), shelf);
            }
        }
        for (int shelf : new int[] {-2, 6}) {
            checks.refused("shelf " + shelf, Checks.INDEX, Samples::busy, y -> y.put(0, shelf));
        }
    }

    private static void apartIsNeverTogether(Checks checks) {
        checks.sentence("two may be told to be APART: they are never on the same shelf.");
        for (int a = 0; a < 12; a++) {
            for (int b = 0; b < 12; b++) {
                if (a != b) {
                    neverTogether(checks, a, b);
                }
            }
        }
    }

    private static void neverTogether(Checks checks, int a, int b) {
        MaterialBars x = new MaterialBars();
        String two = a + " and " + b;
        checks.due("apart, " + two, x.apart(a, b), true);
        x.put(a, 5);
        checks.due("the other one beside it, " + two, x.put(b, 5), 1 + a);
        checks.due("where it lies then, " + two, x.about(b, 3), MaterialBars.NONE);
        checks.due("the shelf below, " + two, x.put(b, 4), 0);
        checks.due("the first one beside it, " + two, x.put(a, 4), 1 + b);
        checks.due("where it lies then, " + two, x.about(a, 3), 5);
    }
}
